import java.util.Arrays;

/** A disc of land and groove tracks in turns, whose writings blur what lies beside them. */
public final class GrooveTurns {
    public static final int NO_SUCH = -1, BAD_VALUE = -2, BAD_TEXT = -3, TOO_MANY = -4, NOT_POSSIBLE = -5, NONE = -6;
    public static final int HEAT = 0, FAR = 1, LOST = 2, WEAR = 3, STEP = 4;

    private static final int SECTORS_OF_TRACK = 12;
    private static final int SPARE_TRACK = 16;
    private static final int ADDRESSES = SPARE_TRACK * SECTORS_OF_TRACK;
    private static final int SPARES = SECTORS_OF_TRACK;
    private static final int ALL_SECTORS = ADDRESSES + SPARES;

    private static final int GREATEST_NUMBER = 255;
    private static final int GREATEST_BLUR = 99;
    private static final int MOST_TICKS = 9999999;
    private static final int LONGEST_IDLE = 9999;
    private static final int MOST_TRIED_WRITINGS = 500;

    private static final int PAD_SIZE = 60;
    private static final int SIGNS_OF_A_PUT = 8;
    private static final int LOWEST_SIGN = 33, HIGHEST_SIGN = 126;
    // The shortest request and the mark behind it ("r0;") are three characters.
    private static final int MOST_REQUESTS = PAD_SIZE / 3 + 1;

    private static final int MOST_UNDOS = 6;
    private static final int SLOTS = 2;

    private static final int[] LOWEST_SETTINGS = {0, 0, 5, 1, 0};
    private static final int[] HIGHEST_SETTINGS = {20, 20, 99, 99, 20};
    private static final int[] FIRST_SETTINGS = {4, 1, 30, 20, 2};

    private Disc disc = new Disc();
    // A change is made on the trial first, so that a call with an error leaves the disc alone.
    private Disc trial = new Disc();
    private final Pad pad = new Pad();
    private final Requests requests = new Requests();
    private final History history = new History();
    // A slot is null as long as nothing was saved in it.
    private final Disc[] slots = new Disc[SLOTS];

    public GrooveTurns() {
    }

    // ---- changes

    public int set(int setting, int value) {
        if (setting < 0 || setting >= FIRST_SETTINGS.length) {
            return BAD_VALUE;
        }
        if (value < at(LOWEST_SETTINGS, setting) || value > at(HIGHEST_SETTINGS, setting)) {
            return BAD_VALUE;
        }
        return adopt(freshTrial().exchangeSetting(setting, value));
    }

    public int write(int address, int number) {
        if (!isAddress(address)) {
            return NO_SUCH;
        }
        if (number < 0 || number > GREATEST_NUMBER) {
            return BAD_VALUE;
        }
        return adopt(freshTrial().writeTo(address, number));
    }

    public int read(int address) {
        if (!isAddress(address)) {
            return NO_SUCH;
        }
        return adopt(freshTrial().readFrom(address));
    }

    public int refresh(int address) {
        if (!isAddress(address)) {
            return NO_SUCH;
        }
        int blur = disc.blurOf(disc.sectorFor(address));
        Disc tried = freshTrial();
        int number = tried.readFrom(address);
        if (number < 0) {
            return number;
        }
        int ticks = tried.writeTo(address, number);
        return ticks < 0 ? ticks : adopt(blur);
    }

    public int seek(int track) {
        if (!isTrack(track)) {
            return NO_SUCH;
        }
        return adopt(freshTrial().moveHead(track));
    }

    public int idle(int ticks) {
        if (ticks < 1 || ticks > LONGEST_IDLE) {
            return BAD_VALUE;
        }
        return adopt(freshTrial().waitFor(ticks));
    }

    public int run(boolean isByTracks) {
        if (requests.parse(pad) != NONE) {
            return BAD_TEXT;
        }
        int done = requests.doOn(freshTrial(), isByTracks);
        pad.clear();
        return adopt(done);
    }

    // ---- what there is; nothing changes

    public int sector(int address, int what) {
        if (!isAddress(address)) {
            return NO_SUCH;
        }
        int sector = disc.sectorFor(address);
        switch (what) {
            case 0: return trackOf(sector);
            case 1: return sector % SECTORS_OF_TRACK;
            case 2: return disc.numberIn(sector);
            case 3: return disc.blurOf(sector);
            case 4: return disc.writingsOf(sector);
            case 5: return isSpare(sector) ? 1 : 0;
            case 6: return disc.isReadable(sector) ? 1 : 0;
            default: return BAD_VALUE;
        }
    }

    public int track(int track, int what) {
        if (!isTrack(track)) {
            return NO_SUCH;
        }
        switch (what) {
            case 0: return disc.filledOn(track, track);
            case 1: return disc.unreadableOn(track, track);
            case 2: return disc.blurOnTrack(track);
            case 3: return disc.writingsOnTrack(track);
            default: return BAD_VALUE;
        }
    }

    public int count(int what) {
        if (what >= 0 && what < FIRST_SETTINGS.length) {
            return disc.settingOf(what);
        }
        switch (what) {
            case 5: return disc.ticks;
            case 6: return disc.head;
            case 7: return disc.sectorUnderHead();
            case 8: return disc.sparesLeft();
            case 9: return disc.filledOn(0, SPARE_TRACK);
            case 10: return disc.unreadableOn(0, SPARE_TRACK);
            case 11: return disc.writingsOnTracks(0, 1) + disc.writingsOnTrack(SPARE_TRACK);
            case 12: return disc.reads;
            case 13: return disc.writingsOnTracks(0, 2);
            case 14: return disc.writingsOnTracks(1, 2);
            case 15: return disc.greatestBlur();
            case 16: return pad.length;
            case 17: return history.size;
            default: return BAD_VALUE;
        }
    }

    // ---- what if; nothing changes

    public int ticksFor(int address, boolean isWriting) {
        if (!isAddress(address)) {
            return NO_SUCH;
        }
        return disc.ticksTo(isWriting ? disc.sectorToWrite(address) : disc.sectorFor(address));
    }

    public int ifRun(boolean isByTracks) {
        if (requests.parse(pad) != NONE) {
            return BAD_TEXT;
        }
        Disc tried = freshTrial();
        requests.doOn(tried, isByTracks);
        return tried.ticks - disc.ticks;
    }

    public int untilLost(int address, int other) {
        if (!isAddress(address) || !isAddress(other)) {
            return NO_SUCH;
        }
        if (address == other) {
            return BAD_VALUE;
        }
        int kept = disc.sectorFor(other);
        if (!disc.isReadable(kept)) {
            return NOT_POSSIBLE;
        }
        Disc tried = freshTrial();
        for (int writings = 1; writings <= MOST_TRIED_WRITINGS; writings++) {
            tried.fill(tried.sectorToWrite(address), address, 0);
            if (!tried.isReadable(kept)) {
                return writings;
            }
        }
        return NONE;
    }

    public int worst() {
        int found = NONE;
        int greatest = -1;
        for (int address = 0; address < ADDRESSES; address++) {
            int sector = disc.sectorFor(address);
            if (disc.isReadable(sector) && disc.blurOf(sector) > greatest) {
                found = address;
                greatest = disc.blurOf(sector);
            }
        }
        return found;
    }

    // ---- texts

    public int put(long characters) {
        int signs = signsIn(characters);
        if (signs < 1) {
            return BAD_VALUE;
        }
        if (pad.length + signs > PAD_SIZE) {
            return TOO_MANY;
        }
        pad.append(characters, signs);
        return pad.length;
    }

    public int wipe() {
        int length = pad.length;
        pad.clear();
        return length;
    }

    public int fault() {
        return requests.parse(pad);
    }

    // ---- undo, saving

    public int undo() {
        Disc before = history.takeBack(disc);
        if (before == null) {
            return NOT_POSSIBLE;
        }
        disc = before;
        return history.size;
    }

    public int save(int slot) {
        if (slot < 0 || slot >= slots.length) {
            return BAD_VALUE;
        }
        Disc saved = slots[slot];
        if (saved == null) {
            saved = new Disc();
            slots[slot] = saved;
        }
        saved.becomeLike(disc);
        return disc.filledOn(0, SPARE_TRACK);
    }

    public int restore(int slot) {
        if (slot < 0 || slot >= slots.length) {
            return BAD_VALUE;
        }
        Disc saved = slots[slot];
        if (saved == null) {
            return NOT_POSSIBLE;
        }
        trial.becomeLike(saved);
        return adopt(trial.filledOn(0, SPARE_TRACK));
    }

    // ---- what the calls share

    private Disc freshTrial() {
        trial.becomeLike(disc);
        return trial;
    }

    /** Takes over what was tried, unless the answer is an error, and keeps the state before. */
    private int adopt(int answer) {
        if (answer >= 0) {
            Disc dropped = history.keep(disc);
            disc = trial;
            trial = dropped == null ? new Disc() : dropped;
        }
        return answer;
    }

    private static boolean isAddress(int address) {
        return address >= 0 && address < ADDRESSES;
    }

    private static boolean isTrack(int track) {
        return track >= 0 && track <= SPARE_TRACK;
    }

    private static boolean isSpare(int sector) {
        return sector >= ADDRESSES;
    }

    private static int trackOf(int sector) {
        return sector / SECTORS_OF_TRACK;
    }

    /** How many characters a number holds; less than 1 if it is none of characters alone. */
    private static int signsIn(long characters) {
        long rest = characters;
        int signs = 0;
        while (rest != 0 && signs < SIGNS_OF_A_PUT) {
            long sign = rest & 255;
            if (sign < LOWEST_SIGN || sign > HIGHEST_SIGN) {
                return BAD_VALUE;
            }
            rest >>>= 8;
            signs++;
        }
        return signs;
    }

    // Rows are looked into and changed here alone, so that no index is used untested.
    private static int at(int[] row, int index) {
        return index >= 0 && index < row.length ? row[index] : 0;
    }

    private static void lay(int[] row, int index, int value) {
        if (index >= 0 && index < row.length) {
            row[index] = value;
        }
    }

    private static void copyRow(int[] from, int[] to) {
        System.arraycopy(from, 0, to, 0, Math.min(from.length, to.length));
    }

    /** All that undo and the slots keep: the settings, the sectors, the head and the time. */
    private static final class Disc {
        private final int[] settings = new int[FIRST_SETTINGS.length];
        // A sector is numbered through all tracks; the spares come last.
        private final int[] numbers = new int[ALL_SECTORS];
        private final int[] blurs = new int[ALL_SECTORS];
        private final int[] writings = new int[ALL_SECTORS];
        private final int[] sectors = new int[ADDRESSES];
        private int sparesTaken = 0;
        int reads = 0;
        int ticks = 0;
        int head = 0;

        Disc() {
            copyRow(FIRST_SETTINGS, settings);
            Arrays.fill(numbers, NONE);
            for (int address = 0; address < sectors.length; address++) {
                sectors[address] = address;
            }
        }

        void becomeLike(Disc other) {
            copyRow(other.settings, settings);
            copyRow(other.numbers, numbers);
            copyRow(other.blurs, blurs);
            copyRow(other.writings, writings);
            copyRow(other.sectors, sectors);
            sparesTaken = other.sparesTaken;
            reads = other.reads;
            ticks = other.ticks;
            head = other.head;
        }

        // -- changes

        int exchangeSetting(int setting, int value) {
            int before = at(settings, setting);
            lay(settings, setting, value);
            return before;
        }

        int writeTo(int address, int number) {
            int sector = sectorToWrite(address);
            int needed = ticksTo(sector);
            if (!hasTime(needed)) {
                return TOO_MANY;
            }
            fill(sector, address, number);
            pass(needed, trackOf(sector));
            return needed;
        }

        int readFrom(int address) {
            int sector = sectorFor(address);
            if (!isReadable(sector)) {
                return NOT_POSSIBLE;
            }
            int needed = ticksTo(sector);
            if (!hasTime(needed)) {
                return TOO_MANY;
            }
            pass(needed, trackOf(sector));
            reads++;
            return numberIn(sector);
        }

        int moveHead(int track) {
            int needed = ticksToTrack(track);
            if (!hasTime(needed)) {
                return TOO_MANY;
            }
            pass(needed, track);
            return needed;
        }

        int waitFor(int more) {
            if (!hasTime(more)) {
                return TOO_MANY;
            }
            pass(more, head);
            return sectorUnderHead();
        }

        /** Writes into the sector that the address has from now on, without the time it takes. */
        void fill(int sector, int address, int number) {
            if (sector != sectorFor(address)) {
                lay(sectors, address, sector);
                sparesTaken++;
            }
            lay(numbers, sector, number);
            lay(blurs, sector, 0);
            lay(writings, sector, writingsOf(sector) + 1);
            if (!isSpare(sector)) {
                blurBy(sector - SECTORS_OF_TRACK, settingOf(HEAT));
                blurBy(sector + SECTORS_OF_TRACK, settingOf(HEAT));
                blurBy(sector - 2 * SECTORS_OF_TRACK, settingOf(FAR));
                blurBy(sector + 2 * SECTORS_OF_TRACK, settingOf(FAR));
            }
        }

        private void blurBy(int sector, int more) {
            if (isOnTracksInUse(sector) && holdsNumber(sector)) {
                lay(blurs, sector, Math.min(GREATEST_BLUR, blurOf(sector) + more));
            }
        }

        private void pass(int more, int track) {
            ticks += more;
            head = track;
        }

        // -- sectors

        /** The first sector of an address bears the address's own number. */
        private boolean isOnTracksInUse(int sector) {
            return isAddress(sector) && at(sectors, sector) == sector;
        }

        int sectorFor(int address) {
            return at(sectors, address);
        }

        int sectorToWrite(int address) {
            int sector = sectorFor(address);
            boolean isWorn = writingsOf(sector) >= settingOf(WEAR);
            return isWorn && sparesLeft() > 0 ? ADDRESSES + sparesTaken : sector;
        }

        int sparesLeft() {
            return SPARES - sparesTaken;
        }

        int numberIn(int sector) {
            return at(numbers, sector);
        }

        int blurOf(int sector) {
            return at(blurs, sector);
        }

        int writingsOf(int sector) {
            return at(writings, sector);
        }

        private boolean holdsNumber(int sector) {
            return at(numbers, sector) != NONE;
        }

        boolean isReadable(int sector) {
            return holdsNumber(sector) && blurOf(sector) < settingOf(LOST);
        }

        int settingOf(int setting) {
            return at(settings, setting);
        }

        // -- the head and time

        int ticksTo(int sector) {
            int moving = ticksToTrack(trackOf(sector));
            int waiting = Math.floorMod(sector - (ticks + moving), SECTORS_OF_TRACK);
            return moving + waiting + 1;
        }

        private int ticksToTrack(int track) {
            return settingOf(STEP) * Math.abs(track - head);
        }

        private boolean hasTime(int needed) {
            return needed <= MOST_TICKS - ticks;
        }

        int sectorUnderHead() {
            return ticks % SECTORS_OF_TRACK;
        }

        // -- counts

        /** How many addresses, whose sectors lie on the tracks from first to last, hold something. */
        int filledOn(int first, int last) {
            int found = 0;
            for (int address = 0; address < ADDRESSES; address++) {
                int sector = sectorFor(address);
                if (isWithin(sector, first, last) && holdsNumber(sector)) {
                    found++;
                }
            }
            return found;
        }

        /** How many of these cannot be read. */
        int unreadableOn(int first, int last) {
            int found = 0;
            for (int address = 0; address < ADDRESSES; address++) {
                int sector = sectorFor(address);
                if (isWithin(sector, first, last) && holdsNumber(sector) && !isReadable(sector)) {
                    found++;
                }
            }
            return found;
        }

        private static boolean isWithin(int sector, int first, int last) {
            return trackOf(sector) >= first && trackOf(sector) <= last;
        }

        int blurOnTrack(int track) {
            return sumOnTrack(blurs, track);
        }

        int writingsOnTrack(int track) {
            return sumOnTrack(writings, track);
        }

        /** The writings on every stride-th track from the first on; the spares are left out. */
        int writingsOnTracks(int first, int stride) {
            int sum = 0;
            for (int track = 0; track < SPARE_TRACK; track++) {
                if (stride > 0 && track % stride == first) {
                    sum += writingsOnTrack(track);
                }
            }
            return sum;
        }

        private static int sumOnTrack(int[] row, int track) {
            int sum = 0;
            for (int number = 0; number < SECTORS_OF_TRACK; number++) {
                sum += at(row, track * SECTORS_OF_TRACK + number);
            }
            return sum;
        }

        int greatestBlur() {
            int greatest = 0;
            for (int address = 0; address < ADDRESSES; address++) {
                greatest = Math.max(greatest, blurOf(sectorFor(address)));
            }
            return greatest;
        }
    }

    /** The text of the pad. */
    private static final class Pad {
        private final int[] signs = new int[PAD_SIZE];
        int length = 0;

        /** The caller has seen to it that there is room. */
        void append(long characters, int count) {
            for (int left = count - 1; left >= 0; left--) {
                lay(signs, length, (int) (characters >>> (8 * left) & 255));
                length++;
            }
        }

        void clear() {
            length = 0;
        }

        int signAt(int index) {
            return at(signs, index);
        }
    }

    /** The requests that a text was read into, and the reading of it. */
    private static final class Requests {
        private static final int AT_KIND = 0, AT_ADDRESS = 1, IN_ADDRESS = 2, AT_NUMBER = 3, IN_NUMBER = 4;

        private final int[] addresses = new int[MOST_REQUESTS];
        // NONE stands for a reading, which has no number.
        private final int[] numbers = new int[MOST_REQUESTS];
        private final int[] tracks = new int[MOST_REQUESTS];
        private int size = 0;
        private int place = AT_KIND;

        /** Reads the requests of a text, and answers its fault, or NONE. */
        int parse(Pad text) {
            size = 0;
            place = AT_KIND;
            for (int index = 0; index < text.length; index++) {
                if (!takes(text.signAt(index))) {
                    return index;
                }
            }
            boolean isWhole = place == IN_NUMBER || place == IN_ADDRESS && !isWriting(size - 1);
            return isWhole ? NONE : text.length;
        }

        private boolean takes(int sign) {
            switch (place) {
                case AT_KIND: return takesKind(sign);
                case AT_ADDRESS: return takesFirstDigit(sign, addresses, IN_ADDRESS);
                case IN_ADDRESS: return takesDigit(sign, addresses, ADDRESSES - 1) || takesEndOfAddress(sign);
                case AT_NUMBER: return takesFirstDigit(sign, numbers, IN_NUMBER);
                default: return takesDigit(sign, numbers, GREATEST_NUMBER) || takesMark(sign, ';', AT_KIND);
            }
        }

        private boolean takesKind(int sign) {
            if (sign != 'w' && sign != 'r') {
                return false;
            }
            lay(numbers, size, sign == 'w' ? 0 : NONE);
            size++;
            place = AT_ADDRESS;
            return true;
        }

        private boolean takesFirstDigit(int sign, int[] row, int next) {
            if (!isDigit(sign)) {
                return false;
            }
            lay(row, size - 1, sign - '0');
            place = next;
            return true;
        }

        private boolean takesDigit(int sign, int[] row, int greatest) {
            int before = at(row, size - 1);
            int value = before * 10 + (sign - '0');
            // A number that is 0 so far has a leading zero, if it goes on.
            if (!isDigit(sign) || before == 0 || value > greatest) {
                return false;
            }
            lay(row, size - 1, value);
            return true;
        }

        private boolean takesEndOfAddress(int sign) {
            return isWriting(size - 1) ? takesMark(sign, '=', AT_NUMBER) : takesMark(sign, ';', AT_KIND);
        }

        private boolean takesMark(int sign, char mark, int next) {
            if (sign != mark) {
                return false;
            }
            place = next;
            return true;
        }

        private static boolean isDigit(int sign) {
            return sign >= '0' && sign <= '9';
        }

        private boolean isWriting(int request) {
            return at(numbers, request) != NONE;
        }

        /** Does the requests on a disc, and answers how many were done. */
        int doOn(Disc target, boolean isByTracks) {
            noteTracks(target, isByTracks);
            int done = 0;
            for (int track = 0; track <= SPARE_TRACK; track++) {
                for (int request = 0; request < size; request++) {
                    if (at(tracks, request) == track) {
                        done += doOne(target, request);
                    }
                }
            }
            return done;
        }

        /** A writing can move an address to a spare, so the tracks are noted ahead of all. */
        private void noteTracks(Disc target, boolean isByTracks) {
            for (int request = 0; request < size; request++) {
                int track = trackOf(target.sectorFor(at(addresses, request)));
                // Requests that are done as they stand are taken as those of one track.
                lay(tracks, request, isByTracks ? track : 0);
            }
        }

        private int doOne(Disc target, int request) {
            int address = at(addresses, request);
            int answer = isWriting(request)
                    ? target.writeTo(address, at(numbers, request))
                    : target.readFrom(address);
            return answer < 0 ? 0 : 1;
        }
    }

    /** The states before the latest changes, in a ring. */
    private static final class History {
        private final Disc[] ring = new Disc[MOST_UNDOS];
        private int oldest = 0;
        int size = 0;

        /** Keeps a disc as it is, and gives back one that is free, or null. */
        Disc keep(Disc before) {
            int place = (oldest + size) % MOST_UNDOS;
            if (size < MOST_UNDOS) {
                size++;
            } else {
                oldest = (oldest + 1) % MOST_UNDOS;
            }
            return exchange(place, before);
        }

        /** Takes the latest disc, or null, and lays the present one in its place to be used again. */
        Disc takeBack(Disc present) {
            if (size < 1) {
                return null;
            }
            size--;
            return exchange((oldest + size) % MOST_UNDOS, present);
        }

        private Disc exchange(int place, Disc laid) {
            if (place < 0 || place >= ring.length) {
                return null;
            }
            Disc found = ring[place];
            ring[place] = laid;
            return found;
        }
    }
}
