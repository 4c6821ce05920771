/**
 * Errands whose end a bank finds by cutting coins: each errand carries half of the grains of the
 * house that sends it, idle houses send their grains home, and the bank knows that all is quiet
 * when all grains that it has minted are back.
 */
public final class CoinErrands {
    public static final int UNKNOWN = -1;
    public static final int OUT_OF_RANGE = -2;
    public static final int FULL = -3;
    public static final int NONE = -5;

    private static final int HOUSES = 6;
    /** The bank is a place behind the houses, so that one table tells all times. */
    private static final int BANK = 6;
    private static final int PLACES = 7;

    private static final int LONGEST_WAY = 9;
    private static final int FIRST_WAY = 2;
    private static final int FIRST_BANK_WAY = 3;
    private static final int LEAST_POWER = 2;
    private static final int FIRST_POWER = 8;
    private static final int GREATEST_POWER = 16;
    private static final int FIRST_PART = 1;
    private static final int GREATEST_PART = 99;

    private static final int MOST_ERRANDS = 80;
    /**
     * Errands are never more than MOST_ERRANDS, a house has one ask or grant on its way at the
     * most, and becomes idle once a tick at the most; one more room is for the message that is
     * just arriving, which is taken out after what it causes has been sent.
     */
    private static final int MOST_MESSAGES = MOST_ERRANDS + HOUSES + HOUSES * LONGEST_WAY + 1;

    private static final int ERRAND = 0;
    private static final int ASK = 1;
    private static final int GRANT = 2;
    private static final int HOME = 3;

    private static final int LONGEST_PASS = 100;
    private static final int LAST_TIME = 1000000;
    private static final int LONGEST_LOOK = 500;
    private static final int MOST_STATES = 4;

    private static final int LONGEST_TEXT = 60;
    /** An errand and the sign behind it take at least four characters. */
    private static final int MOST_IN_TEXT = LONGEST_TEXT / 4;
    private static final int MOST_WORK = 20;
    private static final int SOUND = -1;
    private static final int FAULTY = -100;

    private final State now = new State();
    private final State snapshot = new State();
    private final State trial = new State();
    private final State[] history = new State[MOST_STATES];
    private int states;
    private boolean kept;
    private final char[] text = new char[LONGEST_TEXT];
    private int textLength;
    private final Reader reader = new Reader();

    /** Creates idle houses at the time 0. */
    public CoinErrands() {
        for (int i = 0; i < history.length; i++) {
            history[i] = new State();
        }
    }

    // ---- times, settings

    /**
     * Sets the time that messages take between two houses. This is a change.
     *
     * @return the time that they took; UNKNOWN (a house); OUT_OF_RANGE (ticks, or both are the
     *     same house); NONE if it is so already
     */
    public int setTime(int one, int other, int ticks) {
        if (!isHouse(one) || !isHouse(other)) {
            return UNKNOWN;
        }
        if (!isWay(ticks) || one == other) {
            return OUT_OF_RANGE;
        }
        return changeWay(one, other, ticks);
    }

    /**
     * Sets the time that messages take between a house and the bank. This is a change.
     *
     * @return the time that they took; UNKNOWN; OUT_OF_RANGE; NONE if it is so already
     */
    public int setBankTime(int house, int ticks) {
        if (!isHouse(house)) {
            return UNKNOWN;
        }
        if (!isWay(ticks)) {
            return OUT_OF_RANGE;
        }
        return changeWay(house, BANK, ticks);
    }

    /**
     * Changes a setting. This is a change.
     *
     * @return the previous value; UNKNOWN; OUT_OF_RANGE; NONE if it has this value already
     */
    public int set(int setting, int value) {
        if (setting == 0) {
            return changePower(value);
        }
        if (setting == 1) {
            return changeLeastPart(value);
        }
        return UNKNOWN;
    }

    // ---- errands

    /**
     * Launches the errands of the text, which stays, one after the other. This is a change.
     *
     * @return how many errands are launched (their parts not counted); -100 minus the fault of the
     *     text if it has one; FULL if more than 80 errands would be under way or waiting then
     */
    public int launch() {
        int fault = reader.read(text, textLength);
        if (fault != SOUND) {
            return FAULTY - fault;
        }
        if (now.errandsInAll() + reader.all > MOST_ERRANDS) {
            return FULL;
        }
        record();
        now.startErrands(reader);
        return reader.heads;
    }

    /**
     * Lets ticks pass. This is a change.
     *
     * @return the time then; OUT_OF_RANGE; FULL if the time would be greater than 1000000
     */
    public int pass(int ticks) {
        if (ticks < 1 || ticks > LONGEST_PASS) {
            return OUT_OF_RANGE;
        }
        if (now.time + ticks > LAST_TIME) {
            return FULL;
        }
        record();
        for (int i = 0; i < ticks; i++) {
            now.tick();
        }
        return now.time;
    }

    /**
     * Loses a message. This is a change.
     *
     * @return the grains that it carries; OUT_OF_RANGE if rank is negative; UNKNOWN if there are
     *     not so many
     */
    public int lose(int rank) {
        if (rank < 0) {
            return OUT_OF_RANGE;
        }
        if (!now.isOnItsWay(rank)) {
            return UNKNOWN;
        }
        record();
        return now.dropMessage(rank);
    }

    /**
     * Makes good what is missing: lost grains count as come back, and lost asks are no more out.
     * This is a change.
     *
     * @return how many grains are made good; NONE if no message is lost since it was made good last
     */
    public int makeGood() {
        if (!now.isSomethingLost) {
            return NONE;
        }
        record();
        return now.replaceLost();
    }

    // ---- texts

    /**
     * Appends a character to the text.
     *
     * @return the length of the text then; FULL if it has 60 characters
     */
    public int type(char character) {
        if (textLength < 0 || textLength >= text.length) {
            return FULL;
        }
        text[textLength] = character;
        textLength++;
        return textLength;
    }

    /**
     * Empties the text.
     *
     * @return the length that it had
     */
    public int clearText() {
        int length = textLength;
        textLength = 0;
        return length;
    }

    // ---- history

    /**
     * Restores the latest state of the history, and removes it from there.
     *
     * @return how many states are left; NONE if the history is empty
     */
    public int undo() {
        int latest = states - 1;
        if (latest < 0 || latest >= history.length) {
            return NONE;
        }
        now.copyFrom(history[latest]);
        states = latest;
        return states;
    }

    /**
     * Takes a snapshot of the state, in place of an earlier one.
     *
     * @return the time
     */
    public int keep() {
        snapshot.copyFrom(now);
        kept = true;
        return now.time;
    }

    /**
     * Restores the state of the snapshot, which stays. This is a change.
     *
     * @return the time then; NONE if there is no snapshot
     */
    public int restore() {
        if (!kept) {
            return NONE;
        }
        record();
        now.copyFrom(snapshot);
        return now.time;
    }

    // ---- what there is

    /**
     * Returns a time that messages take.
     *
     * @return the time, 1 if both are the same; UNKNOWN
     */
    public int time(int one, int other) {
        if (!isHouse(one) || !isHouse(other)) {
            return UNKNOWN;
        }
        return now.way(one, other);
    }

    /**
     * Returns the time that messages take between a house and the bank.
     *
     * @return the time; UNKNOWN
     */
    public int bankTime(int house) {
        return isHouse(house) ? now.way(house, BANK) : UNKNOWN;
    }

    /**
     * Returns something of a house.
     *
     * @return the number; UNKNOWN; OUT_OF_RANGE
     */
    public int house(int house, int what) {
        return isHouse(house) ? now.houses[house].tell(what) : UNKNOWN;
    }

    /**
     * Returns something of an errand that waits.
     *
     * @return the number; UNKNOWN; OUT_OF_RANGE (what, or place is negative); NONE if there are not
     *     so many
     */
    public int waiting(int house, int place, int what) {
        if (!isHouse(house)) {
            return UNKNOWN;
        }
        if (what < 0 || what > 3 || place < 0) {
            return OUT_OF_RANGE;
        }
        Errand errand = now.houses[house].waitingAt(place);
        return errand == null ? NONE : errand.tell(what);
    }

    /**
     * Returns something of a message that is on its way.
     *
     * @return the number; OUT_OF_RANGE (what, or rank is negative); NONE if there are not so many
     */
    public int message(int rank, int what) {
        if (what < 0 || what > 6 || rank < 0) {
            return OUT_OF_RANGE;
        }
        return now.isOnItsWay(rank) ? now.messages[rank].tell(what, now.time) : NONE;
    }

    /**
     * Returns a number of the whole.
     *
     * @return the number; OUT_OF_RANGE
     */
    public int total(int what) {
        if (what == 15) {
            return states;
        }
        return what == 16 ? textLength : now.tell(what);
    }

    // ---- what would be; nothing changes

    /**
     * Tells after how many ticks the bank knows that all is quiet.
     *
     * @return how many, 0 if it knows it now; NONE if it takes more than 500
     */
    public int quietIn() {
        return ticksUntil(true);
    }

    /**
     * Tells after how many ticks no house is busy, and no errand, ask or grant is on its way.
     *
     * @return how many, 0 if it is so now; NONE if it takes more than 500
     */
    public int idleIn() {
        return ticksUntil(false);
    }

    /**
     * Tells something of the errands of the text.
     *
     * @return the number; OUT_OF_RANGE; -100 minus the fault of the text if it has one
     */
    public int planned(int what) {
        if (what < 0 || what > 3) {
            return OUT_OF_RANGE;
        }
        int fault = reader.read(text, textLength);
        return fault == SOUND ? reader.tell(what) : FAULTY - fault;
    }

    /**
     * Tells with which least setting 0 no house would send an ask, if the errands of the text were
     * launched in idle houses with nothing on its way, until all is idle or 500 ticks have passed.
     *
     * @return the setting, 2 to 16; -100 minus the fault of the text if it has one; NONE if a house
     *     would send an ask with each
     */
    public int leastCoin() {
        int fault = reader.read(text, textLength);
        if (fault != SOUND) {
            return FAULTY - fault;
        }
        for (int power = LEAST_POWER; power <= GREATEST_POWER; power++) {
            if (!wouldAskWith(power)) {
                return power;
            }
        }
        return NONE;
    }

    // ---- what the face leans on

    private static boolean isHouse(int number) {
        return number >= 0 && number < HOUSES;
    }

    private static boolean isWay(int ticks) {
        return ticks >= 1 && ticks <= LONGEST_WAY;
    }

    private int changeWay(int one, int other, int ticks) {
        int before = now.way(one, other);
        if (before == ticks) {
            return NONE;
        }
        record();
        now.putWay(one, other, ticks);
        return before;
    }

    private int changePower(int value) {
        if (value < LEAST_POWER || value > GREATEST_POWER) {
            return OUT_OF_RANGE;
        }
        int before = now.power;
        if (before == value) {
            return NONE;
        }
        record();
        now.power = value;
        return before;
    }

    private int changeLeastPart(int value) {
        if (value < 1 || value > GREATEST_PART) {
            return OUT_OF_RANGE;
        }
        int before = now.leastPart;
        if (before == value) {
            return NONE;
        }
        record();
        now.leastPart = value;
        return before;
    }

    /** The oldest state's object is used again for the newest one: a run makes no states. */
    private void record() {
        if (states >= history.length) {
            State oldest = history[0];
            for (int i = 0; i + 1 < history.length; i++) {
                history[i] = history[i + 1];
            }
            history[history.length - 1] = oldest;
            states = history.length - 1;
        }
        if (states >= 0 && states < history.length) {
            history[states].copyFrom(now);
            states++;
        }
    }

    private int ticksUntil(boolean allQuiet) {
        trial.copyFrom(now);
        for (int ticks = 0; ticks <= LONGEST_LOOK; ticks++) {
            if (allQuiet ? trial.isQuiet() : trial.isIdle()) {
                return ticks;
            }
            if (trial.isStuck()) {
                return NONE;
            }
            trial.tick();
        }
        return NONE;
    }

    private boolean wouldAskWith(int power) {
        trial.startAnew(now, power);
        trial.startErrands(reader);
        for (int ticks = 0; ticks < LONGEST_LOOK && !trial.isIdle(); ticks++) {
            trial.tick();
            if (trial.hasAsked()) {
                return true;
            }
        }
        return false;
    }

    /** An errand with its parts. It never changes after it was read, so that states may share it. */
    private static final class Errand {
        final int house;
        int work;
        int parts;
        /** It and all that is within it. */
        int all = 1;
        Errand firstPart;
        Errand lastPart;
        Errand nextPart;

        Errand(int house) {
            this.house = house;
        }

        void addPart(Errand part) {
            if (lastPart == null) {
                firstPart = part;
            } else {
                lastPart.nextPart = part;
            }
            lastPart = part;
            parts++;
        }

        int tell(int what) {
            switch (what) {
                case 0:
                    return house;
                case 1:
                    return work;
                case 2:
                    return parts;
                case 3:
                    return all;
                default:
                    return OUT_OF_RANGE;
            }
        }
    }

    /** A message on its way, or a free place for one. */
    private static final class Message {
        int kind;
        int from;
        int to;
        int grains;
        int arrives;
        Errand errand;

        void copyFrom(Message other) {
            kind = other.kind;
            from = other.from;
            to = other.to;
            grains = other.grains;
            arrives = other.arrives;
            errand = other.errand;
        }

        int errands() {
            return errand == null ? 0 : errand.all;
        }

        int tell(int what, int time) {
            switch (what) {
                case 0:
                    return kind;
                case 1:
                    return from;
                case 2:
                    return to;
                case 3:
                    return grains;
                case 4:
                    return arrives - time;
                case 5:
                    return errand == null ? 0 : errand.work;
                case 6:
                    return errands();
                default:
                    return OUT_OF_RANGE;
            }
        }
    }

    /** A house, and the errands that wait in it. */
    private static final class House {
        boolean isBusy;
        int grains;
        int work;
        int waits;
        boolean isAskOut;
        /** The ask that is out, or its grant, is lost: only making good ends it. */
        boolean isAskLost;
        int arrived;
        int sent;
        int asks;
        int idles;
        final Errand[] line = new Errand[MOST_ERRANDS];

        void makeNew() {
            isBusy = false;
            grains = 0;
            work = 0;
            waits = 0;
            isAskOut = false;
            isAskLost = false;
            arrived = 0;
            sent = 0;
            asks = 0;
            idles = 0;
        }

        void copyFrom(House other) {
            isBusy = other.isBusy;
            grains = other.grains;
            work = other.work;
            waits = other.waits;
            isAskOut = other.isAskOut;
            isAskLost = other.isAskLost;
            arrived = other.arrived;
            sent = other.sent;
            asks = other.asks;
            idles = other.idles;
            for (int i = 0; i < waits && i < line.length && i < other.line.length; i++) {
                line[i] = other.line[i];
            }
        }

        void takeIn(Errand errand) {
            isBusy = true;
            arrived++;
            work += errand.work;
            for (Errand part = errand.firstPart; part != null; part = part.nextPart) {
                lineUp(part);
            }
        }

        void lineUp(Errand errand) {
            if (waits < line.length) {
                line[waits] = errand;
                waits++;
            }
        }

        Errand waitingAt(int place) {
            return place >= 0 && place < waits && place < line.length ? line[place] : null;
        }

        void removeFirst() {
            for (int i = 0; i + 1 < waits && i + 1 < line.length; i++) {
                line[i] = line[i + 1];
            }
            waits--;
        }

        int errandsWithin() {
            int all = 0;
            for (int i = 0; i < waits && i < line.length; i++) {
                all += line[i] == null ? 0 : line[i].all;
            }
            return all;
        }

        /** With nothing on its way, a tick would not change this house. */
        boolean isStuck() {
            return !isBusy || (work == 0 && isAskOut);
        }

        int tell(int what) {
            switch (what) {
                case 0:
                    return isBusy ? 1 : 0;
                case 1:
                    return grains;
                case 2:
                    return work;
                case 3:
                    return waits;
                case 4:
                    return isAskOut ? 1 : 0;
                case 5:
                    return arrived;
                case 6:
                    return sent;
                case 7:
                    return asks;
                case 8:
                    return idles;
                default:
                    return OUT_OF_RANGE;
            }
        }
    }

    /** All that undo and the snapshot bring back; and a trial of what would be runs on a copy. */
    private static final class State {
        int time;
        int power = FIRST_POWER;
        int leastPart = FIRST_PART;
        final int[] ways = new int[PLACES * PLACES];
        final House[] houses = new House[HOUSES];
        /** First those on their way, as they will arrive; behind them the free places. */
        final Message[] messages = new Message[MOST_MESSAGES];
        int onTheirWay;
        int minted;
        int back;
        int lost;
        int launched;
        int coins;
        int messagesLost;
        boolean isSomethingLost;

        State() {
            for (int one = 0; one < PLACES; one++) {
                for (int other = 0; other < PLACES; other++) {
                    ways[one * PLACES + other] = firstWay(one, other);
                }
            }
            for (int i = 0; i < houses.length; i++) {
                houses[i] = new House();
            }
            for (int i = 0; i < messages.length; i++) {
                messages[i] = new Message();
            }
        }

        static int firstWay(int one, int other) {
            if (one == other) {
                return 1;
            }
            return one == BANK || other == BANK ? FIRST_BANK_WAY : FIRST_WAY;
        }

        void copyFrom(State other) {
            time = other.time;
            power = other.power;
            leastPart = other.leastPart;
            copyWays(other);
            for (int i = 0; i < houses.length && i < other.houses.length; i++) {
                houses[i].copyFrom(other.houses[i]);
            }
            onTheirWay = other.onTheirWay;
            for (int i = 0; isOnItsWay(i) && i < other.messages.length; i++) {
                messages[i].copyFrom(other.messages[i]);
            }
            minted = other.minted;
            back = other.back;
            lost = other.lost;
            launched = other.launched;
            coins = other.coins;
            messagesLost = other.messagesLost;
            isSomethingLost = other.isSomethingLost;
        }

        /** Idle houses and nothing on its way, with the times and the least part of another state. */
        void startAnew(State other, int newPower) {
            time = 0;
            power = newPower;
            leastPart = other.leastPart;
            copyWays(other);
            for (House house : houses) {
                house.makeNew();
            }
            onTheirWay = 0;
            minted = 0;
            back = 0;
            lost = 0;
            launched = 0;
            coins = 0;
            messagesLost = 0;
            isSomethingLost = false;
        }

        void copyWays(State other) {
            for (int i = 0; i < ways.length && i < other.ways.length; i++) {
                ways[i] = other.ways[i];
            }
        }

        int way(int one, int other) {
            int place = one * PLACES + other;
            return place >= 0 && place < ways.length ? ways[place] : UNKNOWN;
        }

        void putWay(int one, int other, int ticks) {
            int forth = one * PLACES + other;
            int reverse = other * PLACES + one;
            if (forth >= 0 && forth < ways.length && reverse >= 0 && reverse < ways.length) {
                ways[forth] = ticks;
                ways[reverse] = ticks;
            }
        }

        int mint() {
            int coin = 1 << power;
            minted += coin;
            coins++;
            return coin;
        }

        void startErrands(Reader reader) {
            for (int i = 0; i < reader.heads && i < reader.head.length; i++) {
                Errand errand = reader.head[i];
                if (errand != null) {
                    launched++;
                    post(ERRAND, BANK, errand.house, mint(), errand);
                }
            }
        }

        /** Keeps the messages as they will arrive, those of one time as they were sent. */
        void post(int kind, int from, int to, int grains, Errand errand) {
            int way = from * PLACES + to;
            if (way < 0 || way >= ways.length || onTheirWay < 0 || onTheirWay >= messages.length) {
                return;
            }
            Message message = messages[onTheirWay];
            message.kind = kind;
            message.from = from;
            message.to = to;
            message.grains = grains;
            message.arrives = time + ways[way];
            message.errand = errand;
            int place = onTheirWay;
            while (place > 0 && messages[place - 1].arrives > message.arrives) {
                messages[place] = messages[place - 1];
                place--;
            }
            messages[place] = message;
            onTheirWay++;
        }

        boolean isOnItsWay(int rank) {
            return rank >= 0 && rank < onTheirWay && rank < messages.length;
        }

        /** The message's object becomes the first free place. */
        void takeOut(int rank) {
            if (!isOnItsWay(rank)) {
                return;
            }
            Message message = messages[rank];
            int last = rank;
            while (last + 1 < onTheirWay && last + 1 < messages.length) {
                messages[last] = messages[last + 1];
                last++;
            }
            messages[last] = message;
            onTheirWay = last;
        }

        int dropMessage(int rank) {
            if (!isOnItsWay(rank)) {
                return UNKNOWN;
            }
            Message message = messages[rank];
            int grains = message.grains;
            if (message.kind == ASK) {
                loseAskOf(message.from);
            }
            if (message.kind == GRANT) {
                loseAskOf(message.to);
            }
            lost += grains;
            messagesLost++;
            isSomethingLost = true;
            takeOut(rank);
            return grains;
        }

        void loseAskOf(int number) {
            if (isHouse(number)) {
                houses[number].isAskLost = true;
            }
        }

        int replaceLost() {
            int grains = lost;
            back += grains;
            lost = 0;
            isSomethingLost = false;
            for (int i = 0; i < houses.length; i++) {
                if (houses[i].isAskLost) {
                    houses[i].isAskLost = false;
                    houses[i].isAskOut = false;
                    sendWhatItCan(i);
                }
            }
            return grains;
        }

        void tick() {
            time++;
            int arriving = countArriving();
            for (int i = 0; i < arriving; i++) {
                arrive(messages[0]);
                takeOut(0);
            }
            for (int i = 0; i < houses.length; i++) {
                if (houses[i].isBusy) {
                    workIn(i);
                }
            }
        }

        int countArriving() {
            for (int i = 0; i < onTheirWay && i < messages.length; i++) {
                if (messages[i].arrives > time) {
                    return i;
                }
            }
            return onTheirWay;
        }

        /** What this sends arrives later, so the message stays the first one until it is taken out. */
        void arrive(Message message) {
            if (message.kind == HOME) {
                back += message.grains;
                return;
            }
            if (message.kind == ASK) {
                post(GRANT, BANK, message.from, mint(), null);
                return;
            }
            int number = message.to;
            if (!isHouse(number)) {
                return;
            }
            houses[number].grains += message.grains;
            if (message.kind == GRANT) {
                houses[number].isAskOut = false;
            } else if (message.errand != null) {
                houses[number].takeIn(message.errand);
            }
            sendWhatItCan(number);
        }

        void sendWhatItCan(int number) {
            if (!isHouse(number)) {
                return;
            }
            House house = houses[number];
            for (int left = house.waits; left > 0 && house.grains >= 2 * leastPart; left--) {
                sendFirst(number, house);
            }
            if (house.waits > 0 && !house.isAskOut) {
                house.isAskOut = true;
                house.asks++;
                post(ASK, number, BANK, 0, null);
            }
        }

        void sendFirst(int number, House house) {
            Errand errand = house.waitingAt(0);
            if (errand == null) {
                return;
            }
            int carried = house.grains / 2;
            house.grains -= carried;
            house.sent++;
            house.removeFirst();
            post(ERRAND, number, errand.house, carried, errand);
        }

        void workIn(int number) {
            if (!isHouse(number)) {
                return;
            }
            House house = houses[number];
            if (house.work > 0) {
                house.work--;
            }
            if (house.work > 0 || house.waits > 0 || house.isAskOut) {
                return;
            }
            house.isBusy = false;
            house.idles++;
            if (house.grains > 0) {
                post(HOME, number, BANK, house.grains, null);
                house.grains = 0;
            }
        }

        boolean isQuiet() {
            return minted == back;
        }

        boolean isIdle() {
            return busyHouses() == 0 && !isMoreThanGrainsOnItsWay();
        }

        boolean isMoreThanGrainsOnItsWay() {
            for (int i = 0; i < onTheirWay && i < messages.length; i++) {
                if (messages[i].kind != HOME) {
                    return true;
                }
            }
            return false;
        }

        /** No tick will change anything but the time any more. */
        boolean isStuck() {
            for (House house : houses) {
                if (!house.isStuck()) {
                    return false;
                }
            }
            return onTheirWay == 0;
        }

        boolean hasAsked() {
            for (House house : houses) {
                if (house.asks > 0) {
                    return true;
                }
            }
            return false;
        }

        int busyHouses() {
            int busy = 0;
            for (House house : houses) {
                if (house.isBusy) {
                    busy++;
                }
            }
            return busy;
        }

        int grainsInHouses() {
            int grains = 0;
            for (House house : houses) {
                grains += house.grains;
            }
            return grains;
        }

        int grainsOnTheirWay() {
            int grains = 0;
            for (int i = 0; i < onTheirWay && i < messages.length; i++) {
                grains += messages[i].grains;
            }
            return grains;
        }

        /** Errands under way or waiting, parts counted. */
        int errandsInAll() {
            int all = 0;
            for (House house : houses) {
                all += house.errandsWithin();
            }
            for (int i = 0; i < onTheirWay && i < messages.length; i++) {
                all += messages[i].errands();
            }
            return all;
        }

        int tell(int what) {
            switch (what) {
                case 0:
                    return time;
                case 1:
                    return minted;
                case 2:
                    return back;
                case 3:
                    return grainsInHouses();
                case 4:
                    return grainsOnTheirWay();
                case 5:
                    return lost;
                case 6:
                    return onTheirWay;
                case 7:
                    return busyHouses();
                case 8:
                    return launched;
                case 9:
                    return coins;
                case 10:
                    return messagesLost;
                case 11:
                    return isQuiet() ? 1 : 0;
                case 12:
                    return isIdle() ? 1 : 0;
                case 13:
                    return power;
                case 14:
                    return leastPart;
                default:
                    return OUT_OF_RANGE;
            }
        }
    }

    /** Reads the errands of a text, and tells the place of the first fault. */
    private static final class Reader {
        private static final int HOUSE_DUE = 0;
        private static final int COLON_DUE = 1;
        private static final int WORK_DUE = 2;
        private static final int IN_WORK = 3;
        private static final int AFTER_PARTS = 4;

        /** The errands that are no parts. */
        final Errand[] head = new Errand[MOST_IN_TEXT];
        int heads;
        /** The latest errand of each depth: those above the present depth are still open. */
        final Errand[] latest = new Errand[MOST_IN_TEXT];
        int depth;
        int due;
        int all;
        int allWork;
        int greatestDepth;
        int mostParts;

        int read(char[] text, int length) {
            heads = 0;
            depth = 0;
            due = HOUSE_DUE;
            all = 0;
            allWork = 0;
            greatestDepth = 0;
            mostParts = 0;
            for (int i = 0; i < length && i < text.length; i++) {
                if (!take(text[i])) {
                    return i;
                }
            }
            return depth == 0 && (due == IN_WORK || due == AFTER_PARTS) ? SOUND : length;
        }

        boolean take(char character) {
            switch (due) {
                case HOUSE_DUE:
                    return takeHouse(character);
                case COLON_DUE:
                    due = WORK_DUE;
                    return character == ':';
                case WORK_DUE:
                    due = IN_WORK;
                    return takeDigit(character);
                case IN_WORK:
                    return takeInWork(character);
                default:
                    return takeAfter(character);
            }
        }

        boolean takeHouse(char character) {
            if (character < '0' || character >= '0' + HOUSES || depth >= latest.length) {
                return false;
            }
            Errand errand = new Errand(character - '0');
            if (!putInPlace(errand)) {
                return false;
            }
            latest[depth] = errand;
            all++;
            greatestDepth = Math.max(greatestDepth, depth + 1);
            due = COLON_DUE;
            return true;
        }

        boolean putInPlace(Errand errand) {
            if (depth == 0) {
                if (heads >= head.length) {
                    return false;
                }
                head[heads] = errand;
                heads++;
                return true;
            }
            Errand whole = latest[depth - 1];
            if (whole == null) {
                return false;
            }
            whole.addPart(errand);
            mostParts = Math.max(mostParts, whole.parts);
            countWithin();
            return true;
        }

        /** Each errand that is still open has one more within it. */
        void countWithin() {
            for (int i = 0; i < depth && i < latest.length; i++) {
                if (latest[i] != null) {
                    latest[i].all++;
                }
            }
        }

        boolean takeDigit(char character) {
            Errand errand = depth < latest.length ? latest[depth] : null;
            if (errand == null || character < '0' || character > '9') {
                return false;
            }
            int work = errand.work * 10 + (character - '0');
            if (work > MOST_WORK) {
                return false;
            }
            allWork += work - errand.work;
            errand.work = work;
            return true;
        }

        boolean takeInWork(char character) {
            if (character == '(') {
                depth++;
                due = HOUSE_DUE;
                return true;
            }
            if (character >= '0' && character <= '9') {
                return !isWorkZero() && takeDigit(character);
            }
            return takeAfter(character);
        }

        boolean isWorkZero() {
            return depth < latest.length && latest[depth] != null && latest[depth].work == 0;
        }

        /** What may stand behind an errand. */
        boolean takeAfter(char character) {
            if (character == ')' && depth > 0) {
                depth--;
                due = AFTER_PARTS;
                return true;
            }
            due = HOUSE_DUE;
            return depth == 0 ? character == ';' : character == ',';
        }

        int tell(int what) {
            switch (what) {
                case 0:
                    return all;
                case 1:
                    return allWork;
                case 2:
                    return greatestDepth;
                case 3:
                    return mostParts;
                default:
                    return OUT_OF_RANGE;
            }
        }
    }
}
