import java.util.NoSuchElementException;

/** A workbench for parity games; ../shared/DOC.md says what each call promises. */
public final class ParityGame {
    public static final int NONE = -1;

    private static final int MOST_PLACES = 20;
    private static final int MOST_MOVES = 60;
    private static final int CALLS = 10;
    private static final int PLAYERS = 2;
    private static final int MOST_UNDO = 10;
    private static final int SLOTS = 2;
    private static final int MOST_FOLLOWED = 1000;
    private static final int MOST_RUN = 100;
    private static final int INPUT_ROOM = 600;
    private static final int FED_BYTES = 20;
    // A place is written with at most six signs ("e9*>19") and the space behind it.
    private static final int OUTPUT_ROOM = 7 * MOST_PLACES;

    private final Game game;
    private final Reader reader;
    private final History history;
    private final Game[] saved;
    private final boolean[] isSaved;
    private final Board board;
    private final Plan plan;
    private final int[] seenAt;
    private final int[] input;
    private int inputLength;
    private final byte[] output;
    private int outputLength;

    public ParityGame() {
        game = new Game();
        input = new int[INPUT_ROOM];
        reader = new Reader(input);
        history = new History();
        saved = new Game[SLOTS];
        for (int slot = 0; slot < SLOTS; slot++) {
            saved[slot] = new Game();
        }
        isSaved = new boolean[SLOTS];
        board = new Board();
        plan = new Plan(board);
        seenAt = new int[MOST_PLACES];
        output = new byte[OUTPUT_ROOM];
        game.appendPlace(0, 0);
        game.appendPlace(0, 1);
        game.appendPlace(1, 2);
        game.appendPlace(1, 3);
        game.appendMove(0, 1);
        game.appendMove(0, 2);
        game.appendMove(1, 0);
        game.appendMove(1, 3);
        game.appendMove(2, 0);
        game.appendMove(2, 3);
        game.appendMove(3, 2);
        game.layAt(0);
    }

    // ---- input

    public int feed(int a, int b, int c, int d, int e) throws IllegalStateException {
        if (inputLength > INPUT_ROOM - FED_BYTES) {
            throw new IllegalStateException("the input buffer is full");
        }
        appendFour(a);
        appendFour(b);
        appendFour(c);
        appendFour(d);
        appendFour(e);
        return inputLength;
    }

    public int load(int length) throws IllegalArgumentException, IllegalStateException {
        if (length < 0 || length > inputLength) {
            throw new IllegalArgumentException("length out of range");
        }
        boolean good = reader.read(length);
        inputLength = 0;
        if (!good) {
            throw new IllegalStateException("the text has an error");
        }
        game.copy(reader.game);
        plan.forget();
        history.clear();
        for (int slot = 0; slot < SLOTS; slot++) {
            isSaved[slot] = false;
        }
        return game.places;
    }

    public int errorCode() {
        return reader.error;
    }

    public int errorPosition() {
        return reader.errorAt;
    }

    // ---- what there is

    public int size(int what) throws IllegalArgumentException {
        switch (what) {
            case 0:
                return game.places;
            case 1:
                return game.moves;
            case 2:
                return game.places - Integer.bitCount(game.odd);
            case 3:
                board.take(game);
                return Integer.bitCount(board.deadEnds());
            case 4:
                board.take(game);
                return board.differentCalls();
            case 5:
                return game.greatestCall();
            case 6:
                return game.token;
            case 7:
                return game.made;
            default:
                throw new IllegalArgumentException("what out of range");
        }
    }

    public int place(int place, int what) throws NoSuchElementException, IllegalArgumentException {
        needPlace(place);
        switch (what) {
            case 0:
                return game.ownerOf(place);
            case 1:
                return game.calls[place];
            case 2:
                return game.movesFrom(place);
            case 3:
                return game.movesTo(place);
            case 4:
                return winnerOf(place);
            default:
                throw new IllegalArgumentException("what out of range");
        }
    }

    public int move(int move, int end) throws NoSuchElementException, IllegalArgumentException {
        needMove(move);
        if (end != 0 && end != 1) {
            throw new IllegalArgumentException("end out of range");
        }
        return end == 0 ? game.from[move] : game.to[move];
    }

    public int moveBetween(int from, int to) throws NoSuchElementException {
        needPlace(from);
        needPlace(to);
        return game.findMove(from, to);
    }

    public int heard(int call) throws IllegalArgumentException {
        needCall(call);
        return game.heard[call];
    }

    // ---- who wins

    public int won(int player) throws IllegalArgumentException {
        needPlayer(player);
        return plan.wonBy(game, player);
    }

    public float wonShare(int player) throws IllegalArgumentException {
        needPlayer(player);
        return shareOf(player);
    }

    public int wonBits(int player) throws IllegalArgumentException {
        needPlayer(player);
        return bitsOf(shareOf(player));
    }

    public double meanCall(int player) throws IllegalArgumentException {
        needPlayer(player);
        int set = plan.wonBy(game, player);
        int sum = 0;
        int quantity = 0;
        for (int place = 0; place < game.places; place++) {
            if (has(set, place)) {
                sum += game.calls[place];
                quantity++;
            }
        }
        return quantity == 0 ? 0.0 : (double) sum / (double) quantity;
    }

    public int plan(int place) throws NoSuchElementException {
        needPlace(place);
        plan.choose(game);
        return plan.chosen[place];
    }

    public int follow(int place, int moves) throws NoSuchElementException, IllegalArgumentException {
        needPlace(place);
        if (moves < 0 || moves > MOST_FOLLOWED) {
            throw new IllegalArgumentException("moves out of range");
        }
        plan.choose(game);
        int at = place;
        for (int i = 0; i < moves; i++) {
            int move = plan.chosen[at];
            if (move == NONE) {
                return NONE;
            }
            at = game.to[move];
        }
        return at;
    }

    public int play(int place, int what) throws NoSuchElementException, IllegalArgumentException {
        needPlace(place);
        if (what < 0 || what > 2) {
            throw new IllegalArgumentException("what out of range");
        }
        plan.choose(game);
        int at = lastOfPlay(place);
        boolean ends = plan.chosen[at] == NONE;
        if (what == 2) {
            return ends ? NONE : greatestCallSince(seenAt[at]);
        }
        int placesSeen = placesSeen();
        if (ends) {
            return what == 0 ? placesSeen : 0;
        }
        return what == 0 ? seenAt[at] : placesSeen - seenAt[at];
    }

    // ---- pulling, staying, coming back

    public int pull(int player, int set) throws IllegalArgumentException {
        needPlayer(player);
        needSet(set);
        board.take(game);
        return board.attract(player, set, board.all);
    }

    public int pullIn(int place, int player, int set) throws NoSuchElementException, IllegalArgumentException {
        needPlace(place);
        needPlayer(player);
        needSet(set);
        board.take(game);
        return board.distance(place, player, set);
    }

    public int stay(int player, int set) throws IllegalArgumentException {
        needPlayer(player);
        needSet(set);
        board.take(game);
        return board.stayingIn(player, set);
    }

    public int comeBack(int player, int set) throws IllegalArgumentException {
        needPlayer(player);
        needSet(set);
        board.take(game);
        return board.comingBackTo(player, set);
    }

    public boolean isTrap(int player, int set) throws IllegalArgumentException {
        needPlayer(player);
        needSet(set);
        board.take(game);
        return board.isClosedFor(player, set);
    }

    public int canHear(int player, int call) throws IllegalArgumentException {
        needPlayer(player);
        needCall(call);
        board.take(game);
        return board.comingBackTo(player, board.calling[call]);
    }

    // ---- what would be: nothing changes

    public int wonIfCall(int place, int call) throws NoSuchElementException, IllegalArgumentException {
        needPlace(place);
        needCall(call);
        board.take(game);
        board.changeCall(place, call);
        return board.wonBy(0);
    }

    public int wonIfOther(int place) throws NoSuchElementException {
        needPlace(place);
        board.take(game);
        board.changeOwner(place);
        return board.wonBy(0);
    }

    public int wonWithout(int move) throws NoSuchElementException {
        needMove(move);
        board.take(game);
        board.cut(game.from[move], game.to[move]);
        return board.wonBy(0);
    }

    public int wonWith(int from, int to) throws NoSuchElementException {
        needPlace(from);
        needPlace(to);
        board.take(game);
        board.join(from, to);
        return board.wonBy(0);
    }

    public int leastCall(int player, int place, int start) throws NoSuchElementException, IllegalArgumentException {
        needPlace(place);
        needPlace(start);
        needPlayer(player);
        board.take(game);
        for (int call = 0; call < CALLS; call++) {
            board.changeCall(place, call);
            if (has(board.wonBy(player), start)) {
                return call;
            }
        }
        return NONE;
    }

    public int neededMoves() {
        int zero = plan.wonBy(game, 0);
        board.take(game);
        int needed = 0;
        for (int move = 0; move < game.moves; move++) {
            int from = game.from[move];
            // Taking a move from the loser of a place changes no winner: he wins without the place, and gains nothing.
            if (winnerOf(from) == game.ownerOf(from)) {
                board.cut(from, game.to[move]);
                if (board.wonBy(0) != zero) {
                    needed++;
                }
                board.join(from, game.to[move]);
            }
        }
        return needed;
    }

    public int keyPlace() {
        int zero = plan.wonBy(game, 0);
        board.take(game);
        int key = NONE;
        int most = 0;
        for (int place = 0; place < game.places; place++) {
            board.changeOwner(place);
            int changed = Integer.bitCount(board.wonBy(0) ^ zero);
            board.changeOwner(place);
            if (changed > most) {
                most = changed;
                key = place;
            }
        }
        return key;
    }

    // ---- changes

    public int addPlace(int owner, int call) throws IllegalArgumentException, IllegalStateException {
        needPlayer(owner);
        needCall(call);
        if (game.places >= MOST_PLACES) {
            throw new IllegalStateException("there are 20 places");
        }
        beginChange();
        game.appendPlace(owner, call);
        return game.places - 1;
    }

    public int removePlace(int place) throws NoSuchElementException, IllegalStateException {
        needPlace(place);
        if (game.places == 1) {
            throw new IllegalStateException("it is the only place");
        }
        beginChange();
        int movesBefore = game.moves;
        game.dropMovesOf(place);
        game.dropPlace(place);
        game.layAt(0);
        return movesBefore - game.moves;
    }

    public int setOwner(int place, int owner) throws NoSuchElementException, IllegalArgumentException {
        needPlace(place);
        needPlayer(owner);
        beginChange();
        int previous = game.ownerOf(place);
        if (owner != previous) {
            game.odd ^= 1 << place;
        }
        return previous;
    }

    public int setCall(int place, int call) throws NoSuchElementException, IllegalArgumentException {
        needPlace(place);
        needCall(call);
        beginChange();
        int previous = game.calls[place];
        game.calls[place] = call;
        return previous;
    }

    public int addMove(int from, int to)
            throws NoSuchElementException, IllegalArgumentException, IllegalStateException {
        needPlace(from);
        needPlace(to);
        if (game.findMove(from, to) != NONE) {
            throw new IllegalArgumentException("there is such a move");
        }
        if (game.moves >= MOST_MOVES) {
            throw new IllegalStateException("there are 60 moves");
        }
        beginChange();
        game.appendMove(from, to);
        return game.moves - 1;
    }

    public int removeMove(int move) throws NoSuchElementException {
        needMove(move);
        beginChange();
        game.dropMove(move);
        return game.moves;
    }

    public int preferMove(int move) throws NoSuchElementException {
        needMove(move);
        beginChange();
        game.bringToFront(move);
        return game.from[0];
    }

    public int exchange() throws IllegalStateException {
        if (game.greatestCall() >= CALLS - 1) {
            throw new IllegalStateException("a call is 9");
        }
        beginChange();
        game.odd ^= (1 << game.places) - 1;
        for (int place = 0; place < game.places; place++) {
            game.calls[place]++;
        }
        game.layAt(0);
        return game.greatestCall();
    }

    public int lay(int place) throws NoSuchElementException {
        needPlace(place);
        beginChange();
        game.layAt(place);
        return winnerOf(place);
    }

    public int go(int move) throws NoSuchElementException, IllegalStateException {
        needMove(move);
        if (game.from[move] != game.token) {
            throw new IllegalStateException("the move does not lead from the place of the token");
        }
        beginChange();
        game.step(move);
        return game.calls[game.token];
    }

    public int run(int moves) throws IllegalArgumentException {
        if (moves < 1 || moves > MOST_RUN) {
            throw new IllegalArgumentException("moves out of range");
        }
        beginChange();
        plan.choose(game);
        for (int made = 0; made < moves; made++) {
            int move = plan.chosen[game.token];
            if (move == NONE) {
                return made;
            }
            game.step(move);
        }
        return moves;
    }

    public int restore(int slot) throws IllegalArgumentException, IllegalStateException {
        needSlot(slot);
        if (!isSaved[slot]) {
            throw new IllegalStateException("nothing is saved there");
        }
        beginChange();
        game.copy(saved[slot]);
        return game.places;
    }

    // ---- undo, save

    public int undo() throws IllegalStateException {
        if (history.kept == 0) {
            throw new IllegalStateException("there is no change to undo");
        }
        plan.forget();
        history.takeLatest(game);
        return history.kept;
    }

    public int save(int slot) throws IllegalArgumentException {
        needSlot(slot);
        saved[slot].copy(game);
        isSaved[slot] = true;
        int quantity = 0;
        for (int i = 0; i < SLOTS; i++) {
            if (isSaved[i]) {
                quantity++;
            }
        }
        return quantity;
    }

    // ---- output

    public int writePlaces() {
        plan.choose(game);
        outputLength = 0;
        for (int place = 0; place < game.places; place++) {
            if (place > 0) {
                put(' ');
            }
            writePlace(place);
        }
        return outputLength;
    }

    public int outputByte(int index) throws IndexOutOfBoundsException {
        if (index < 0 || index >= outputLength) {
            throw new IndexOutOfBoundsException("index out of range");
        }
        return output[index];
    }

    // ---- helpers

    private static boolean has(int set, int place) {
        return (set >>> place & 1) != 0;
    }

    private void needPlace(int place) {
        if (!game.hasPlace(place)) {
            throw new NoSuchElementException("no such place");
        }
    }

    private void needMove(int move) {
        if (move < 0 || move >= game.moves) {
            throw new NoSuchElementException("no such move");
        }
    }

    private void needSet(int set) {
        if (set < 0 || set >>> game.places != 0) {
            throw new IllegalArgumentException("set out of range");
        }
    }

    private static void needPlayer(int player) {
        if (player != 0 && player != 1) {
            throw new IllegalArgumentException("player out of range");
        }
    }

    private static void needCall(int call) {
        if (call < 0 || call >= CALLS) {
            throw new IllegalArgumentException("call out of range");
        }
    }

    private static void needSlot(int slot) {
        if (slot < 0 || slot >= SLOTS) {
            throw new IllegalArgumentException("slot out of range");
        }
    }

    private void beginChange() {
        history.keep(game);
        plan.forget();
    }

    private int winnerOf(int place) {
        return has(plan.wonBy(game, 0), place) ? 0 : 1;
    }

    private float shareOf(int player) {
        return (float) Integer.bitCount(plan.wonBy(game, player)) / (float) game.places;
    }

    /** For shares from 0 to 1 only; each step is exact in float arithmetic. */
    private static int bitsOf(float share) {
        if (share <= 0.0f) {
            return 0;
        }
        float scaled = share;
        int exponent = 127;
        for (int i = 0; i < 126 && scaled < 1.0f; i++) {
            scaled = scaled * 2.0f;
            exponent--;
        }
        return exponent << 23 | (int) ((scaled - 1.0f) * 8388608.0f);
    }

    /** Notes in seenAt when the play comes to which place; returns the place seen again, or that where it ends. */
    private int lastOfPlay(int start) {
        for (int place = 0; place < MOST_PLACES; place++) {
            seenAt[place] = NONE;
        }
        int at = start;
        for (int i = 0; i < MOST_PLACES && seenAt[at] == NONE && plan.chosen[at] != NONE; i++) {
            seenAt[at] = i;
            at = game.to[plan.chosen[at]];
        }
        return at;
    }

    private int placesSeen() {
        int quantity = 0;
        for (int place = 0; place < game.places; place++) {
            if (seenAt[place] != NONE) {
                quantity++;
            }
        }
        return quantity;
    }

    private int greatestCallSince(int moves) {
        int greatest = NONE;
        for (int place = 0; place < game.places; place++) {
            if (seenAt[place] >= moves) {
                greatest = Math.max(greatest, game.calls[place]);
            }
        }
        return greatest;
    }

    private void appendFour(int bytes) {
        for (int shift = 24; shift >= 0 && inputLength < INPUT_ROOM; shift -= 8) {
            input[inputLength] = bytes >>> shift & 255;
            inputLength++;
        }
    }

    private void writePlace(int place) {
        int owner = game.ownerOf(place);
        put(owner == 0 ? 'e' : 'o');
        put('0' + game.calls[place]);
        if (winnerOf(place) == owner) {
            put('*');
        }
        int move = plan.chosen[place];
        if (move != NONE) {
            put('>');
            int to = game.to[move];
            if (to >= 10) {
                put('0' + to / 10);
            }
            put('0' + to % 10);
        }
    }

    private void put(int sign) {
        if (outputLength < OUTPUT_ROOM) {
            output[outputLength] = (byte) sign;
            outputLength++;
        }
    }

    /** All that undo() brings back. */
    private static final class Game {
        int places;
        /** The set of the places of player 1. */
        int odd;
        final int[] calls = new int[MOST_PLACES];
        int moves;
        final int[] from = new int[MOST_MOVES];
        final int[] to = new int[MOST_MOVES];
        int token;
        int made;
        final int[] heard = new int[CALLS];

        void clear() {
            places = 0;
            odd = 0;
            moves = 0;
            token = 0;
            made = 0;
        }

        void copy(Game other) {
            places = other.places;
            odd = other.odd;
            System.arraycopy(other.calls, 0, calls, 0, MOST_PLACES);
            moves = other.moves;
            System.arraycopy(other.from, 0, from, 0, MOST_MOVES);
            System.arraycopy(other.to, 0, to, 0, MOST_MOVES);
            token = other.token;
            made = other.made;
            System.arraycopy(other.heard, 0, heard, 0, CALLS);
        }

        boolean hasPlace(int place) {
            return place >= 0 && place < places;
        }

        int ownerOf(int place) {
            return odd >>> place & 1;
        }

        int greatestCall() {
            int greatest = 0;
            for (int place = 0; place < places; place++) {
                greatest = Math.max(greatest, calls[place]);
            }
            return greatest;
        }

        int movesFrom(int place) {
            int quantity = 0;
            for (int move = 0; move < moves; move++) {
                if (from[move] == place) {
                    quantity++;
                }
            }
            return quantity;
        }

        int movesTo(int place) {
            int quantity = 0;
            for (int move = 0; move < moves; move++) {
                if (to[move] == place) {
                    quantity++;
                }
            }
            return quantity;
        }

        int findMove(int start, int end) {
            for (int move = 0; move < moves; move++) {
                if (from[move] == start && to[move] == end) {
                    return move;
                }
            }
            return NONE;
        }

        int firstMove(int place) {
            for (int move = 0; move < moves; move++) {
                if (from[move] == place) {
                    return move;
                }
            }
            return NONE;
        }

        void appendPlace(int owner, int call) {
            if (places < MOST_PLACES) {
                calls[places] = call;
                odd = odd & ~(1 << places) | owner << places;
                places++;
            }
        }

        void appendMove(int start, int end) {
            if (moves < MOST_MOVES) {
                from[moves] = start;
                to[moves] = end;
                moves++;
            }
        }

        void dropMove(int dropped) {
            for (int move = dropped; move < moves - 1; move++) {
                from[move] = from[move + 1];
                to[move] = to[move + 1];
            }
            moves--;
        }

        void dropMovesOf(int place) {
            int left = 0;
            for (int move = 0; move < moves; move++) {
                if (from[move] != place && to[move] != place) {
                    from[left] = from[move];
                    to[left] = to[move];
                    left++;
                }
            }
            moves = left;
        }

        /** Its moves must have been dropped. */
        void dropPlace(int dropped) {
            for (int place = dropped; place < places - 1; place++) {
                calls[place] = calls[place + 1];
            }
            int ahead = (1 << dropped) - 1;
            odd = odd & ahead | odd >>> 1 & ~ahead;
            places--;
            for (int move = 0; move < moves; move++) {
                if (from[move] > dropped) {
                    from[move]--;
                }
                if (to[move] > dropped) {
                    to[move]--;
                }
            }
        }

        void bringToFront(int preferred) {
            int start = from[preferred];
            int end = to[preferred];
            for (int move = preferred; move > 0; move--) {
                from[move] = from[move - 1];
                to[move] = to[move - 1];
            }
            from[0] = start;
            to[0] = end;
        }

        void layAt(int place) {
            token = place;
            made = 0;
            for (int call = 0; call < CALLS; call++) {
                heard[call] = 0;
            }
            heard[calls[place]] = 1;
        }

        void step(int move) {
            token = to[move];
            made++;
            heard[calls[token]]++;
        }
    }

    /** The latest games before a change, in a ring. */
    private static final class History {
        final Game[] ring = new Game[MOST_UNDO];
        int first;
        int kept;

        History() {
            for (int i = 0; i < MOST_UNDO; i++) {
                ring[i] = new Game();
            }
        }

        void clear() {
            first = 0;
            kept = 0;
        }

        void keep(Game game) {
            ring[(first + kept) % MOST_UNDO].copy(game);
            if (kept < MOST_UNDO) {
                kept++;
            } else {
                first = (first + 1) % MOST_UNDO;
            }
        }

        void takeLatest(Game game) {
            if (kept > 0) {
                kept--;
                game.copy(ring[(first + kept) % MOST_UNDO]);
            }
        }
    }

    /** A game as sets of places, which may be altered to see what would be. */
    private static final class Board {
        int places;
        int all;
        final int[] owned = new int[PLAYERS];
        final int[] calling = new int[CALLS];
        final int[] next = new int[MOST_PLACES];

        void take(Game game) {
            places = game.places;
            all = (1 << places) - 1;
            owned[1] = game.odd & all;
            owned[0] = all & ~game.odd;
            for (int call = 0; call < CALLS; call++) {
                calling[call] = 0;
            }
            for (int place = 0; place < places; place++) {
                calling[game.calls[place]] |= 1 << place;
                next[place] = 0;
            }
            for (int move = 0; move < game.moves; move++) {
                join(game.from[move], game.to[move]);
            }
        }

        void join(int from, int to) {
            next[from] |= 1 << to;
        }

        void cut(int from, int to) {
            next[from] &= ~(1 << to);
        }

        void changeOwner(int place) {
            owned[0] ^= 1 << place;
            owned[1] ^= 1 << place;
        }

        void changeCall(int place, int call) {
            for (int other = 0; other < CALLS; other++) {
                calling[other] &= ~(1 << place);
            }
            calling[call] |= 1 << place;
        }

        int differentCalls() {
            int quantity = 0;
            for (int call = 0; call < CALLS; call++) {
                if (calling[call] != 0) {
                    quantity++;
                }
            }
            return quantity;
        }

        int deadEnds() {
            int set = 0;
            for (int place = 0; place < places; place++) {
                if (next[place] == 0) {
                    set |= 1 << place;
                }
            }
            return set;
        }

        /** The places asked for from which the player brings the token into the set by one move in the region. */
        int before(int player, int set, int region, int asked) {
            int found = 0;
            for (int place = 0; place < places; place++) {
                int bit = 1 << place;
                int ends = next[place] & region;
                if ((asked & bit) != 0 && (ends & set) != 0) {
                    boolean chooses = (owned[player] & bit) != 0;
                    if (chooses || (ends & ~set) == 0) {
                        found |= bit;
                    }
                }
            }
            return found;
        }

        /** The places of the region from which the player can pull to the set without leaving the region. */
        int attract(int player, int set, int region) {
            int pulled = set & region;
            for (int round = 0; round < MOST_PLACES && pulled != 0; round++) {
                int more = before(player, pulled, region, region & ~pulled);
                if (more == 0) {
                    return pulled;
                }
                pulled |= more;
            }
            return pulled;
        }

        int distance(int place, int player, int set) {
            int pulled = set;
            for (int round = 0; round <= MOST_PLACES; round++) {
                if (has(pulled, place)) {
                    return round;
                }
                pulled |= before(player, pulled, all, all & ~pulled);
            }
            return NONE;
        }

        int stayingIn(int player, int set) {
            int ended = deadEnds();
            int kept = set;
            for (int round = 0; round < MOST_PLACES; round++) {
                int held = before(player, kept, all, kept) | kept & ended;
                if (held == kept) {
                    return kept;
                }
                kept = held;
            }
            return kept;
        }

        int comingBackTo(int player, int set) {
            int hopeful = all;
            for (int round = 0; round < MOST_PLACES; round++) {
                int again = before(player, hopeful, all, set);
                int left = attract(player, again, all);
                if (left == hopeful) {
                    return hopeful;
                }
                hopeful = left;
            }
            return hopeful;
        }

        boolean isClosedFor(int player, int set) {
            int held = before(1 - player, set, all, set) | owned[player] & deadEnds();
            return (set & ~held) == 0;
        }

        int wonBy(int player) {
            int ended = deadEnds();
            int zero = attract(0, owned[1] & ended, all);
            int rest = all & ~zero;
            rest &= ~attract(1, owned[0] & ended, rest);
            zero |= wonEndless(this, rest, CALLS);
            return player == 0 ? zero : all & ~zero;
        }

        /**
         * The places of the region from which player 0 wins in it; from each a move leads into the region.
         * Each level looks at a lesser call than the one that called it, so that there are at most CALLS + 1 levels.
         */
        private static int wonEndless(Board board, int region, int bound) {
            int top = board.greatestCall(region, bound);
            if (top == NONE) {
                return 0;
            }
            int player = top & 1;
            int rest = region;
            for (int round = 0; round < MOST_PLACES && rest != 0; round++) {
                int inner = rest & ~board.attract(player, board.calling[top], rest);
                int innerZero = wonEndless(board, inner, top);
                int lost = player == 0 ? inner & ~innerZero : innerZero;
                if (lost == 0) {
                    break;
                }
                rest &= ~board.attract(1 - player, lost, rest);
            }
            return player == 0 ? rest : region & ~rest;
        }

        private int greatestCall(int region, int bound) {
            for (int call = bound - 1; call >= 0; call--) {
                if ((calling[call] & region) != 0) {
                    return call;
                }
            }
            return NONE;
        }
    }

    /** Who wins and by which moves, kept until the game changes. */
    private static final class Plan {
        final Board board;
        final int[] chosen = new int[MOST_PLACES];
        int zero;
        boolean zeroKnown;
        boolean chosenKnown;

        Plan(Board board) {
            this.board = board;
        }

        void forget() {
            zeroKnown = false;
            chosenKnown = false;
        }

        int wonBy(Game game, int player) {
            if (!zeroKnown) {
                board.take(game);
                zero = board.wonBy(0);
                zeroKnown = true;
            }
            return player == 0 ? zero : (1 << game.places) - 1 & ~zero;
        }

        void choose(Game game) {
            for (int player = 0; player < PLAYERS && !chosenKnown; player++) {
                int won = wonBy(game, player);
                // Anew for each player: the moves chosen for one do not bind the other.
                board.take(game);
                for (int place = 0; place < game.places; place++) {
                    if (game.ownerOf(place) == player) {
                        chosen[place] = has(won, place) ? winningMove(game, place, won) : game.firstMove(place);
                    }
                }
            }
            chosenKnown = true;
        }

        /** Leaves only the move found on the board, for the places behind this one. */
        private int winningMove(Game game, int place, int won) {
            int player = game.ownerOf(place);
            for (int move = 0; move < game.moves; move++) {
                // A move that leads out of what is won can't be the one, so that it need not be tried.
                if (game.from[move] == place && has(won, game.to[move])) {
                    board.next[place] = 1 << game.to[move];
                    if ((won & ~board.wonBy(player)) == 0) {
                        return move;
                    }
                }
            }
            return NONE;
        }
    }

    /** Reads a description; stops at its first error, which is the one with the least position. */
    private static final class Reader {
        private static final int SYNTAX = 1;
        private static final int RANGE = 2;
        private static final int UNKNOWN = 3;
        private static final int DUPLICATE = 4;
        private static final int LIMIT = 5;
        private static final int COUNT = 6;

        private static final int END = 0;
        private static final int WORD = 1;
        private static final int NUMBER = 2;
        private static final int SEMICOLON = 3;
        private static final int WRONG = 4;
        private static final int MOST_DIGITS = 3;

        final int[] text;
        final Game game = new Game();
        int error;
        int errorAt = NONE;
        private int length;
        private int kind;
        private int start;
        private int end;
        private int value;
        private int laid;

        Reader(int[] text) {
            this.text = text;
        }

        boolean read(int bytes) {
            length = Math.min(bytes, text.length);
            error = 0;
            errorAt = NONE;
            kind = END;
            end = 0;
            laid = 0;
            game.clear();
            advance();
            if (!isWord("game")) {
                fail(SYNTAX);
                return false;
            }
            advance();
            for (int i = 0; i < length && error == 0 && kind == SEMICOLON; i++) {
                advance();
                readLine();
            }
            if (kind != END) {
                fail(SYNTAX);
            } else if (game.places == 0) {
                fail(COUNT);
            }
            if (error == 0) {
                game.layAt(laid);
            }
            return error == 0;
        }

        private void fail(int code) {
            if (error == 0) {
                error = code;
                errorAt = start;
            }
        }

        private void readLine() {
            if (isWord("even")) {
                readPlaces(0);
            } else if (isWord("odd")) {
                readPlaces(1);
            } else if (isWord("move")) {
                readMoves();
            } else if (isWord("token")) {
                readToken();
            } else {
                fail(SYNTAX);
            }
        }

        private void readPlaces(int owner) {
            advance();
            if (kind != NUMBER) {
                fail(SYNTAX);
            }
            for (int i = 0; i < length && error == 0 && kind == NUMBER; i++) {
                readCall(owner);
                advance();
            }
        }

        private void readCall(int owner) {
            if (value >= CALLS) {
                fail(RANGE);
            } else if (game.places >= MOST_PLACES) {
                fail(LIMIT);
            } else {
                game.appendPlace(owner, value);
            }
        }

        private void readMoves() {
            advance();
            needPlaceNumber();
            int from = value;
            if (error == 0) {
                advance();
                if (kind != NUMBER) {
                    fail(SYNTAX);
                }
            }
            for (int i = 0; i < length && error == 0 && kind == NUMBER; i++) {
                readMoveTo(from);
                advance();
            }
        }

        private void readMoveTo(int from) {
            if (!game.hasPlace(value)) {
                fail(UNKNOWN);
            } else if (game.findMove(from, value) != NONE) {
                fail(DUPLICATE);
            } else if (game.moves >= MOST_MOVES) {
                fail(LIMIT);
            } else {
                game.appendMove(from, value);
            }
        }

        private void readToken() {
            advance();
            needPlaceNumber();
            if (error == 0) {
                laid = value;
                advance();
            }
        }

        private void needPlaceNumber() {
            if (kind != NUMBER) {
                fail(SYNTAX);
            } else if (!game.hasPlace(value)) {
                fail(UNKNOWN);
            }
        }

        private void advance() {
            boolean needsGap = kind == WORD || kind == NUMBER;
            start = blanksEnd(end);
            boolean gap = start > end;
            if (start >= length) {
                kind = END;
                end = start;
            } else if (text[start] == ';') {
                kind = SEMICOLON;
                end = start + 1;
            } else {
                takeRun();
                if (needsGap && !gap) {
                    kind = WRONG;
                }
            }
        }

        private void takeRun() {
            end = runEnd('a', 'z');
            if (end > start) {
                kind = WORD;
                return;
            }
            end = runEnd('0', '9');
            if (end > start && end - start <= MOST_DIGITS) {
                kind = NUMBER;
                takeValue();
                return;
            }
            kind = WRONG;
        }

        private int blanksEnd(int at) {
            int place = at;
            while (place < length && (text[place] == ' ' || text[place] == '\n')) {
                place++;
            }
            return place;
        }

        private int runEnd(char least, char greatest) {
            int place = start;
            while (place < length && text[place] >= least && text[place] <= greatest) {
                place++;
            }
            return place;
        }

        private void takeValue() {
            value = 0;
            for (int i = start; i < end; i++) {
                value = 10 * value + text[i] - '0';
            }
        }

        private boolean isWord(String word) {
            if (kind != WORD || end - start != word.length()) {
                return false;
            }
            for (int i = 0; i < word.length(); i++) {
                if (text[start + i] != word.charAt(i)) {
                    return false;
                }
            }
            return true;
        }
    }
}
