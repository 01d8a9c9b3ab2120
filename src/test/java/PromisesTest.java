/** Each promise by its number: ordinary inputs, the edges that the document names, wrong inputs. */
public final class PromisesTest {
    private static final String FIRST = "game; even 0 1; odd 2 3; move 0 1 2; move 1 0 3; move 2 0 3; move 3 2";
    /** Place 2 (odd) ends plays that player 0 wins, place 5 (even) such that player 1 wins. */
    private static final String ENDS =
            "game; even 3 4; odd 5; odd 1 2; even 7; move 0 1 0; move 1 2; move 3 4 5; move 4 4 3";

    private PromisesTest() {
    }

    public static void main(String[] args) {
        newObject();
        feedAndLoad();
        errors();
        whatThereIs();
        whoWins();
        plans();
        pulling();
        staying();
        whatWouldBe();
        places();
        ownersAndCalls();
        moves();
        fullGame();
        exchange();
        token();
        undoAndSave();
        output();
        Due.end("PromisesTest");
    }

    private static void newObject() {
        ParityGame game = new ParityGame();
        Due.is("1: NONE", -1, () -> ParityGame.NONE);
        Due.is("1: a new workbench", Due.state(Due.loaded(FIRST)), () -> Due.state(game));
        Due.is("1: its text", "e0>1 e1>0 o2*>3 o3*>2", () -> Due.written(new ParityGame()));
        Due.outside("1: no output", () -> game.outputByte(0));
        Due.refused("1: no change", () -> new ParityGame().undo());
        Due.refused("1: nothing saved", () -> game.restore(0));
        Due.illegal("1: no input", () -> game.load(1));
        Due.is("1: no error", 0, () -> game.errorCode());
        Due.is("1: no position", -1, () -> game.errorPosition());
    }

    private static void feedAndLoad() {
        ParityGame game = new ParityGame();
        for (int i = 1; i <= 30; i++) {
            int length = 20 * i;
            Due.is("2: feed", length, () -> game.feed(0x67616d65, 0x3b6f6464, 0x20372030, 0x20202020, -1));
        }
        Due.refused("2: feed beyond 600", () -> game.feed(1, 2, 3, 4, 5));
        Due.illegal("3: a negative length", () -> game.load(-1));
        Due.illegal("3: beyond the buffer", () -> game.load(601));
        Due.illegal("3: beyond the buffer", () -> game.load(Integer.MAX_VALUE));
        Due.illegal("3: beyond the buffer", () -> game.load(Integer.MIN_VALUE));
        game.lay(3);
        game.save(0);
        game.save(1);
        game.writePlaces();
        Due.refused("3: the whole buffer is wrong", () -> game.load(600));
        Due.is("3: a wrong text changes no place", 4, () -> game.size(0));
        Due.is("3: nor the token", 3, () -> game.size(6));
        Due.is("4: errorCode", 1, () -> game.errorCode());
        Due.is("5: errorPosition", 16, () -> game.errorPosition());
        Due.illegal("3: the buffer is emptied behind an error", () -> game.load(1));
        Due.is("4: errorCode stays then", 1, () -> game.errorCode());
        Due.is("5: errorPosition stays then", 16, () -> game.errorPosition());
        Due.is("2: feed into the empty buffer", 20,
                () -> game.feed(0x67616d65, 0x3b6f6464, 0x20372030, 0x20202020, -1));
        Due.is("3: load a part", 2, () -> game.load(12));
        Due.is("3: it replaces everything", "o7 o0 @0+0 0 0 0 0 0 0 0 1 0 0", () -> Due.state(game));
        Due.is("4: no error", 0, () -> game.errorCode());
        Due.is("5: no position", -1, () -> game.errorPosition());
        Due.refused("3: no change can be undone", () -> game.undo());
        Due.refused("3: nothing is saved", () -> game.restore(0));
        Due.refused("3: nothing is saved", () -> game.restore(1));
        Due.is("3: nothing is saved", 1, () -> game.save(1));
        Due.is("3: the output buffer stays", (int) 'e', () -> game.outputByte(0));
        Due.illegal("3: the buffer is emptied behind a load", () -> game.load(1));
        Due.refused("3: an empty text", () -> game.load(0));
        Due.is("4: an empty text", 1, () -> game.errorCode());
        Due.is("5: an empty text", 0, () -> game.errorPosition());
        undoBehindWrongText();
        loadAgain();
        parts();
    }

    /** Nothing of an earlier text, right or wrong, is left in a later one. */
    private static void loadAgain() {
        ParityGame game = Due.loaded("game; odd 1 2 3; even 4; move 1 2; move 3 0; token 2");
        game.setCall(2, 9);
        game.run(5);
        Due.feed(game, "game; odd 5 5 5 5; move 0 0; token 3; token 4");
        Due.refused("3: a wrong text", () -> game.load(45));
        String due = "e6 o7 @0+0 0 0 0 0 0 0 1 0 0 0";
        Due.feed(game, "game; even 6; odd 7");
        Due.is("3: a right one behind it", 2, () -> game.load(19));
        Due.is("3: nothing of those before", due, () -> Due.state(game));
        Due.is("3: who wins is found anew", 2, () -> game.won(0));
        Due.feed(game, "game; odd 6 7; token 1");
        Due.is("3: a token that lies elsewhere", 2, () -> game.load(22));
        Due.is("3: a token that lies elsewhere", 1, () -> game.size(6));
        Due.feed(game, "game; even 6; odd 7");
        Due.is("3: the same text again", 2, () -> game.load(19));
        Due.is("3: the token is at place 0", due, () -> Due.state(game));
    }

    /** Only the first bytes are read, whatever stands behind them. */
    private static void parts() {
        String text = "game; even 123; odd 4      ";
        int[] lengths = {4, 5, 6, 8, 10, 11, 12, 13, 14, 15, 17, 19, 20, 21, 23};
        int[] codes = {6, 1, 1, 1, 1, 1, 0, 2, 2, 2, 2, 2, 2, 2, 2};
        int[] positions = {4, 5, 6, 6, 10, 11, -1, 11, 11, 11, 11, 11, 11, 11, 11};
        for (int i = 0; i < lengths.length; i++) {
            int one = i;
            ParityGame game = new ParityGame();
            Due.feed(game, text);
            Object due = codes[i] == 0 ? (Object) 1 : "throws.IllegalStateException";
            Due.is("3: length " + lengths[i], due, () -> game.load(lengths[one]));
            Due.is("4: length " + lengths[i], codes[i], () -> game.errorCode());
            Due.is("5: length " + lengths[i], positions[i], () -> game.errorPosition());
        }
        String[] ends = {" ", "\n", "7", "a", ";", "?"};
        int[] code = {0, 0, 1, 1, 1, 1};
        int[] position = {-1, -1, 596, 597, 600, 597};
        for (int i = 0; i < ends.length; i++) {
            int one = i;
            String spaces = "game; even 1" + " ".repeat(584);
            String whole = spaces + (i == 2 ? "1117" : i == 4 ? "   ;" : " " + ends[i] + ends[i] + ends[i]);
            ParityGame game = new ParityGame();
            Due.feed(game, whole);
            Object due = code[i] == 0 ? (Object) 1 : "throws.IllegalStateException";
            Due.is("3: 600 bytes, " + i, due, () -> game.load(600));
            Due.is("4: 600 bytes, " + i, code[one], () -> game.errorCode());
            Due.is("5: 600 bytes, " + i, position[one], () -> game.errorPosition());
        }
    }

    private static void undoBehindWrongText() {
        ParityGame game = new ParityGame();
        game.save(0);
        game.setCall(0, 9);
        Due.feed(game, "game; even");
        Due.refused("3: a wrong text", () -> game.load(10));
        Due.is("3: changes can be undone behind it", 0, () -> game.undo());
        Due.is("3: what is saved stays behind it", 4, () -> game.restore(0));
        Due.is("3: undo leaves errorCode()", 1, () -> game.errorCode());
        Due.is("3: undo leaves errorPosition()", 10, () -> game.errorPosition());
    }

    private static void error(String text, int code, int position) {
        ParityGame game = new ParityGame();
        Due.feed(game, text);
        Due.refused("3: " + text, () -> game.load(text.length()));
        Due.is("4: " + text, code, () -> game.errorCode());
        Due.is("5: " + text, position, () -> game.errorPosition());
    }

    private static void right(String text, int places) {
        ParityGame game = new ParityGame();
        Due.feed(game, text);
        Due.is("3: " + text, places, () -> game.load(text.length()));
    }

    private static void errors() {
        String twenty = "game; even 0 1 2 3 4 5 6 7 8 9; odd 0 1 2 3 4 5 6 7 8 9";
        StringBuilder sixty = new StringBuilder(twenty);
        for (int from = 0; from < 3; from++) {
            sixty.append("; move ").append(from);
            for (int to = 0; to < 20; to++) {
                sixty.append(' ').append(to);
            }
        }
        String full = sixty.toString();
        right(twenty, 20);
        right(full, 20);
        error(twenty + " 0", 5, twenty.length() + 1);
        error(twenty + " 10", 2, twenty.length() + 1);
        error(full + ";move 3 0", 5, full.length() + 8);
        error(full + ";move 2 0", 4, full.length() + 8);
        error(full + ";move 3 20", 3, full.length() + 8);
        error(full + ";move 20 0", 3, full.length() + 6);
        error(full + ";move 3", 1, full.length() + 7);
        error("   ", 1, 3);
        error("games; even 1", 1, 0);
        error("game", 6, 4);
        error("game \n", 6, 6);
        error("game;", 1, 5);
        error("game; even 1;", 1, 13);
        error("game;; even 1", 1, 5);
        error("game even 1", 1, 5);
        error("game; even", 1, 10);
        error("game; even1", 1, 10);
        error("game; even 1odd 2", 1, 12);
        error("game; even 1x", 1, 12);
        error("game; even 10", 2, 11);
        error("game; even 999", 2, 11);
        error("game; even 0001", 1, 11);
        error("game; even 9999999999999999999", 1, 11);
        error("game; even 1; move 0", 1, 20);
        error("game; even 1; move 0;", 1, 20);
        error("game; even 1; move 1 0", 3, 19);
        error("game; even 1; move 0 1; odd 1", 3, 21);
        error("game; even 1; move 0 0 0", 4, 23);
        error("game; even 1; move 0 0; move 0 0", 4, 31);
        error("game; even 1; token 1", 3, 20);
        error("game; even 1; token 0 0", 1, 22);
        error("game; even 1; token", 1, 19);
        error("game; token 0; even 1", 3, 12);
        error("game; even 1; Even 2", 1, 14);
        error("game; even 1\t", 1, 12);
        error("game; even 1; play 0", 1, 14);
        error("game; even 1 " + (char) 200, 1, 13);
        error("game; even 1 " + (char) 0, 1, 13);
        error("game; even -1", 1, 11);
        right("game;even 001;move 0 00;token 000", 1);
        right("\n game\n;\neven 0\n1 \n", 2);
        right("game; token 0; even 1".replace("token 0; even 1", "even 1; token 0; token 0"), 1);
        Due.is("3: the last token line counts", 1, () -> Due.loaded("game; odd 1 2; token 0; token 1").size(6));
        Due.is("3: the order of moves", "o1 o2 0>1 0>0 1>1 @1+0 0 0 1 0 0 0 0 0 0 0",
                () -> Due.state(Due.loaded("game; odd 1 2; token 1; move 0 1 0; move 1 1")));
    }

    private static void whatThereIs() {
        ParityGame game = Due.loaded(ENDS);
        int[] sizes = {6, 7, 3, 2, 6, 7, 0, 0};
        for (int i = 0; i < sizes.length; i++) {
            int what = i;
            Due.is("6: size " + i, sizes[i], () -> game.size(what));
        }
        Due.illegal("6: size -1", () -> game.size(-1));
        Due.illegal("6: size 8", () -> game.size(8));
        int[] values = {1, 1, 2, 1, 1};
        for (int i = 0; i < values.length; i++) {
            int what = i;
            Due.is("7: place 3, " + i, values[i], () -> game.place(3, what));
        }
        Due.is("7: a move to itself counts", 2, () -> game.place(4, 3));
        Due.is("7: no moves", 0, () -> game.place(5, 2));
        Due.missing("7: place 6", () -> game.place(6, 0));
        Due.missing("7: place -1 before what", () -> game.place(-1, 9));
        Due.illegal("7: what 5", () -> game.place(0, 5));
        Due.illegal("7: what -1", () -> game.place(0, -1));
        Due.is("8: move 0, its end", 1, () -> game.move(0, 1));
        Due.is("8: move 6, its start", 4, () -> game.move(6, 0));
        Due.missing("8: move 7", () -> game.move(7, 0));
        Due.missing("8: move -1 before end", () -> game.move(-1, 7));
        Due.illegal("8: end 2", () -> game.move(0, 2));
        Due.illegal("8: end -1", () -> game.move(0, -1));
        Due.is("9: from 3 to 5", 4, () -> game.moveBetween(3, 5));
        Due.is("9: from 5 to 3", -1, () -> game.moveBetween(5, 3));
        Due.is("9: from 4 to 4", 5, () -> game.moveBetween(4, 4));
        Due.missing("9: from 6", () -> game.moveBetween(6, 0));
        Due.missing("9: to -1", () -> game.moveBetween(0, -1));
        Due.is("10: heard 3", 1, () -> game.heard(3));
        Due.is("10: heard 9", 0, () -> game.heard(9));
        Due.illegal("10: heard 10", () -> game.heard(10));
        Due.illegal("10: heard -1", () -> game.heard(-1));
    }

    private static void whoWins() {
        ParityGame game = Due.loaded(ENDS);
        // Place 3 may go on to 5, where player 0 has no move.
        game.setCall(4, 8);
        Due.is("11: won 0", 7, () -> game.won(0));
        Due.is("11: won 1", 56, () -> game.won(1));
        Due.illegal("11: won 2", () -> game.won(2));
        Due.illegal("11: won -1", () -> game.won(-1));
        Due.is("12: share", 0.5f, () -> game.wonShare(0));
        Due.illegal("12: wonShare 2", () -> game.wonShare(2));
        Due.is("13: bits", 0x3f000000, () -> game.wonBits(1));
        Due.illegal("13: wonBits -1", () -> game.wonBits(-1));
        Due.is("14: mean", 4.0, () -> game.meanCall(0));
        Due.is("14: mean", 16.0 / 3.0, () -> game.meanCall(1));
        Due.illegal("14: meanCall 2", () -> game.meanCall(2));
        Due.is("14: mean of none", 0.0, () -> Due.loaded(FIRST).meanCall(0));
        shares();
    }

    /** Every share that there can be: so many places that end plays for one player, the rest for the other. */
    private static void shares() {
        for (int places = 1; places <= 20; places++) {
            for (int odd = 0; odd <= places; odd++) {
                StringBuilder text = new StringBuilder("game");
                for (int place = 0; place < places; place++) {
                    text.append(place < odd ? ";odd 1" : ";even 1");
                }
                ParityGame game = Due.loaded(text.toString());
                float share = (float) odd / (float) places;
                Due.is("12: share " + odd + " of " + places, share, () -> game.wonShare(0));
                Due.is("13: bits " + odd + " of " + places, Float.floatToIntBits(share), () -> game.wonBits(0));
                float other = (float) (places - odd) / (float) places;
                Due.is("13: bits of the rest", Float.floatToIntBits(other), () -> game.wonBits(1));
            }
        }
    }

    private static void plans() {
        // Both moves of place 0 win as long as place 1 keeps its own, but not the first ones of both together.
        ParityGame game = Due.loaded("game; even 1 1 2; move 0 1 2; move 1 0 2; move 2 0 1");
        Due.is("15: the first move of place 0", 0, () -> game.plan(0));
        Due.is("15: the second move of place 1", 3, () -> game.plan(1));
        Due.is("15: the first move of place 2", 4, () -> game.plan(2));
        game.preferMove(3);
        Due.is("15: the number, not the place, is told", 0, () -> game.plan(1));
        Due.is("15: none", -1, () -> Due.loaded(ENDS).plan(2));
        Due.is("15: a loser's first move", 1, () -> Due.loaded("game; odd 0; even 2; move 1 1; move 0 1 0").plan(0));
        Due.is("15: a winner's second move", 2, () -> Due.loaded("game; odd 0; even 1; move 1 1; move 0 0 1").plan(0));
        Due.missing("15: plan 3", () -> game.plan(3));
        Due.missing("15: plan -1", () -> game.plan(-1));
        ParityGame ends = Due.loaded(ENDS);
        Due.is("16: no move", 2, () -> ends.follow(2, 0));
        Due.is("16: to the end", 2, () -> ends.follow(0, 2));
        Due.is("16: beyond the end", -1, () -> ends.follow(0, 3));
        Due.is("16: beyond the end", -1, () -> ends.follow(2, 1));
        Due.is("16: beyond the end", -1, () -> ends.follow(3, 1000));
        Due.missing("16: place 6", () -> ends.follow(6, 0));
        Due.missing("16: place -1 before moves", () -> ends.follow(-1, -1));
        Due.illegal("16: 1001 moves", () -> ends.follow(0, 1001));
        Due.illegal("16: -1 moves", () -> ends.follow(0, -1));
        Due.is("17: moves to the end", 2, () -> ends.play(0, 0));
        Due.is("17: an ended play", 0, () -> ends.play(0, 1));
        Due.is("17: an ended play", -1, () -> ends.play(0, 2));
        Due.is("17: at the end", 0, () -> ends.play(2, 0));
        Due.is("17: by the plan of player 1", 2, () -> ends.play(4, 0));
        Due.is("17: an end that player 1 wins", -1, () -> ends.play(4, 2));
        Due.missing("17: place 6 before what", () -> ends.play(6, 3));
        Due.illegal("17: what 3", () -> ends.play(0, 3));
        Due.illegal("17: what -1", () -> ends.play(0, -1));
        ParityGame ring = Due.loaded("game; odd 9; even 1 2 5; move 0 1; move 1 2; move 2 3; move 3 1");
        Due.is("17: ahead of a greater round", 1, () -> ring.play(0, 0));
        Due.is("17: places of a greater round", 3, () -> ring.play(0, 1));
        Due.is("17: the call ahead of it is not its own", 5, () -> ring.play(0, 2));
        Due.is("16: round and round", 1, () -> ring.follow(0, 1000));
    }

    private static void pulling() {
        ParityGame game = new ParityGame();
        Due.is("18: pull", 15, () -> game.pull(0, 4));
        Due.is("18: pull", 2, () -> game.pull(1, 2));
        Due.is("18: pull to nothing", 0, () -> game.pull(0, 0));
        Due.is("18: pull to all", 15, () -> game.pull(1, 15));
        Due.is("18: an ended play has not come", 4, () -> Due.loaded("game; odd 1 1 1; move 0 1").pull(0, 4));
        Due.is("18: an end that belongs to it", 7, () -> Due.loaded("game; odd 1 1 1; move 0 1").pull(0, 6));
        Due.illegal("18: player 2", () -> game.pull(2, 1));
        Due.illegal("18: a place that there is not", () -> game.pull(0, 16));
        Due.illegal("18: negative", () -> game.pull(0, -1));
        Due.illegal("18: negative", () -> game.pull(0, Integer.MIN_VALUE));
        Due.is("19: 0", 0, () -> game.pullIn(2, 0, 4));
        Due.is("19: 2", 2, () -> game.pullIn(1, 0, 4));
        Due.is("19: the other player delays", 3, () -> game.pullIn(1, 1, 1));
        Due.is("19: none", -1, () -> game.pullIn(0, 1, 2));
        String line = "game; even 0 0 0 0 0 0 0 0 0 0 0 0 0 0 0 0 0 0 0 0; move 0 1; move 1 2; move 2 3; move 3 4; "
                + "move 4 5; move 5 6; move 6 7; move 7 8; move 8 9; move 9 10; move 10 11; move 11 12; move 12 13; "
                + "move 13 14; move 14 15; move 15 16; move 16 17; move 17 18; move 18 19";
        Due.is("19: 19", 19, () -> Due.loaded(line).pullIn(0, 1, 1 << 19));
        Due.is("18: from all twenty", (1 << 20) - 1, () -> Due.loaded(line).pull(1, 1 << 19));
        Due.illegal("18: a 21st place", () -> Due.loaded(line).pull(1, 1 << 20));
        Due.missing("19: place 4 before player", () -> game.pullIn(4, 2, -1));
        Due.missing("19: place -1", () -> game.pullIn(-1, 0, 0));
        Due.illegal("19: player -1", () -> game.pullIn(0, -1, 0));
        Due.illegal("19: set 16", () -> game.pullIn(0, 0, 16));
        Due.illegal("19: set -1", () -> game.pullIn(0, 0, -1));
    }

    private static void staying() {
        ParityGame game = new ParityGame();
        ParityGame ends = Due.loaded(ENDS);
        Due.is("20: stay", 3, () -> game.stay(0, 3));
        Due.is("20: stay", 0, () -> game.stay(1, 3));
        Due.is("20: stay nowhere", 0, () -> game.stay(1, 0));
        Due.is("20: a play may end in the set", 36, () -> ends.stay(0, 36));
        Due.is("20: a play may end in the set", 36, () -> ends.stay(1, 36));
        Due.illegal("20: player 2", () -> game.stay(2, 0));
        Due.illegal("20: set 16", () -> game.stay(0, 16));
        Due.illegal("20: set -1", () -> game.stay(0, -1));
        Due.is("21: comeBack", 3, () -> game.comeBack(0, 1));
        Due.is("21: comeBack", 12, () -> game.comeBack(1, 8));
        Due.is("21: an ended play does not go on", 0, () -> ends.comeBack(0, 36));
        Due.is("21: an ended play does not go on", 0, () -> ends.comeBack(1, 36));
        Due.is("21: to an end no more, round a place yes", 1, () -> ends.comeBack(0, 63 & ~16 & ~8));
        Due.is("21: never again", 24, () -> ends.comeBack(1, 63));
        Due.illegal("21: player -1", () -> game.comeBack(-1, 0));
        Due.illegal("21: set 16", () -> game.comeBack(0, 16));
        Due.illegal("21: set -1", () -> game.comeBack(0, -1));
        Due.is("22: trap", true, () -> game.isTrap(0, 12));
        Due.is("22: no trap", false, () -> game.isTrap(0, 3));
        Due.is("22: the empty set", true, () -> game.isTrap(1, 0));
        Due.is("22: an end of the player", true, () -> ends.isTrap(1, 4));
        Due.is("22: an end of the other player", false, () -> ends.isTrap(0, 4));
        Due.is("22: the other player may leave", true, () -> ends.isTrap(1, 1));
        Due.is("22: the player may leave", false, () -> ends.isTrap(0, 1));
        Due.illegal("22: player 2", () -> game.isTrap(2, 0));
        Due.illegal("22: set 16", () -> game.isTrap(0, 16));
        Due.illegal("22: set -1", () -> game.isTrap(0, -1));
        Due.is("23: canHear", 3, () -> game.canHear(0, 0));
        Due.is("23: canHear", 12, () -> game.canHear(1, 3));
        Due.is("23: nothing calls it", 0, () -> game.canHear(1, 9));
        Due.illegal("23: player 2", () -> game.canHear(2, 0));
        Due.illegal("23: call 10", () -> game.canHear(0, 10));
        Due.illegal("23: call -1", () -> game.canHear(0, -1));
    }

    private static void whatWouldBe() {
        ParityGame game = new ParityGame();
        String before = Due.state(game);
        Due.is("24: wonIfCall", 3, () -> game.wonIfCall(1, 2));
        Due.is("24: its own call", 0, () -> game.wonIfCall(1, 1));
        Due.missing("24: place 4 before call", () -> game.wonIfCall(4, 10));
        Due.illegal("24: call 10", () -> game.wonIfCall(0, 10));
        Due.illegal("24: call -1", () -> game.wonIfCall(0, -1));
        Due.is("25: wonIfOther", 15, () -> game.wonIfOther(2));
        Due.missing("25: place 4", () -> game.wonIfOther(4));
        Due.missing("25: place -1", () -> game.wonIfOther(-1));
        Due.is("26: wonWithout", 15, () -> game.wonWithout(5));
        Due.is("26: without the only one", 15, () -> game.wonWithout(6));
        Due.missing("26: move 7", () -> game.wonWithout(7));
        Due.missing("26: move -1", () -> game.wonWithout(-1));
        Due.is("27: wonWith", 3, () -> game.wonWith(0, 0));
        Due.is("27: there is one", 0, () -> game.wonWith(0, 1));
        Due.missing("27: from 4", () -> game.wonWith(4, 0));
        Due.missing("27: to -1", () -> game.wonWith(0, -1));
        Due.is("28: leastCall 0", 0, () -> game.leastCall(0, 1, 0));
        Due.is("28: none", -1, () -> game.leastCall(0, 0, 2));
        Due.is("28: an odd one", 5, () -> Due.loaded("game; even 4 0; move 0 1; move 1 0").leastCall(1, 1, 0));
        Due.is("28: an even one", 6, () -> Due.loaded("game; even 5 0; move 0 1; move 1 0").leastCall(0, 1, 0));
        Due.missing("28: place 4 before player", () -> game.leastCall(2, 4, 0));
        Due.missing("28: start 4 before player", () -> game.leastCall(2, 0, 4));
        Due.illegal("28: player 2", () -> game.leastCall(2, 0, 0));
        Due.is("29: neededMoves", 2, () -> game.neededMoves());
        Due.is("29: none", 0, () -> Due.loaded("game; even 1").neededMoves());
        Due.is("29: the only move of a winner", 1, () -> Due.loaded("game; even 2; move 0 0").neededMoves());
        Due.is("29: the only move of a loser", 0, () -> Due.loaded("game; even 1; move 0 0").neededMoves());
        Due.is("30: keyPlace", 2, () -> game.keyPlace());
        Due.is("30: the first of several", 0, () -> Due.loaded("game; even 1 1").keyPlace());
        Due.is("30: none", -1, () -> Due.loaded("game; even 2; move 0 0").keyPlace());
        Due.is("24 to 30: nothing changes", before, () -> Due.state(game));
        Due.refused("24 to 30: no change", () -> game.undo());
        ParityGame full = full();
        Due.is("27: a 61st move", 1 << 20 - 1, () -> full.wonWith(19, 19) & 1 << 20 - 1);
    }

    /** 20 places, 60 moves, none from place 19. */
    private static ParityGame full() {
        ParityGame game = new ParityGame();
        for (int place = 4; place < 20; place++) {
            game.addPlace(0, place % 10 == 9 ? 8 : 3);
        }
        for (int i = 0; i < 80; i++) {
            int from = i % 19;
            int to = i / 19;
            if (game.moveBetween(from, to) < 0 && game.size(1) < 60) {
                game.addMove(from, to);
            }
        }
        return game;
    }

    private static void places() {
        ParityGame game = new ParityGame();
        Due.is("31: addPlace", 4, () -> game.addPlace(1, 9));
        Due.is("31: its owner", 1, () -> game.place(4, 0));
        Due.is("31: its call", 9, () -> game.place(4, 1));
        Due.is("31: its moves", 0, () -> game.place(4, 2));
        Due.is("31: the token stays", 0, () -> game.size(6));
        Due.illegal("31: owner 2", () -> game.addPlace(2, 0));
        Due.illegal("31: owner -1", () -> game.addPlace(-1, 0));
        Due.illegal("31: call 10", () -> game.addPlace(0, 10));
        Due.illegal("31: call -1", () -> game.addPlace(0, -1));
        ParityGame full = full();
        Due.refused("31: a 21st place", () -> full.addPlace(0, 0));
        Due.illegal("31: owner before the limit", () -> full.addPlace(2, 0));
        Due.is("31: no more than 20", 20, () -> full.size(0));
        game.addMove(4, 4);
        game.addMove(4, 1);
        game.addMove(3, 4);
        game.go(0);
        Due.is("32: removePlace", 4, () -> game.removePlace(1));
        Due.is("32: what is left", "e0 o2 o3 o9 0>1 1>0 1>2 2>1 3>3 2>3 @0+0 1 0 0 0 0 0 0 0 0 0",
                () -> Due.state(game));
    }

    private static void ownersAndCalls() {
        ParityGame game = new ParityGame();
        Due.missing("32: place 4", () -> game.removePlace(4));
        Due.missing("32: place -1", () -> game.removePlace(-1));
        ParityGame one = Due.loaded("game; odd 3; move 0 0");
        Due.refused("32: the only one", () -> one.removePlace(0));
        Due.missing("32: there is no such place", () -> one.removePlace(1));
        Due.is("32: a move to itself counts once", 1, () -> Due.loaded("game; odd 3 3; move 0 0").removePlace(0));
        game.lay(3);
        Due.is("33: setOwner", 1, () -> game.setOwner(2, 0));
        Due.is("33: the same again", 0, () -> game.setOwner(2, 0));
        Due.is("33: it is set", 0, () -> game.place(2, 0));
        Due.is("33: and changes who wins", 15, () -> game.won(0));
        Due.missing("33: place 4 before owner", () -> game.setOwner(4, 2));
        Due.illegal("33: owner 2", () -> game.setOwner(0, 2));
        Due.illegal("33: owner -1", () -> game.setOwner(0, -1));
        Due.is("34: setCall", 3, () -> game.setCall(3, 9));
        Due.is("34: it is set", 9, () -> game.place(3, 1));
        Due.is("34: what was heard stays", 1, () -> game.heard(3));
        Due.is("34: what was heard stays", 0, () -> game.heard(9));
        Due.is("34: the token stays", 3, () -> game.size(6));
        Due.missing("34: place -1 before call", () -> game.setCall(-1, 10));
        Due.illegal("34: call 10", () -> game.setCall(0, 10));
        Due.illegal("34: call -1", () -> game.setCall(0, -1));
        Due.is("33, 34: changes, even if all stays", 3, () -> game.undo());
    }

    private static void moves() {
        ParityGame game = new ParityGame();
        Due.is("35: addMove", 7, () -> game.addMove(3, 3));
        Due.is("35: it is there", 7, () -> game.moveBetween(3, 3));
        Due.missing("35: from 4", () -> game.addMove(4, 0));
        Due.missing("35: to -1", () -> game.addMove(0, -1));
        Due.illegal("35: there is one", () -> game.addMove(3, 3));
        ParityGame full = full();
        Due.illegal("35: there is one, before the limit", () -> full.addMove(full.move(59, 0), full.move(59, 1)));
        Due.refused("35: a 61st move", () -> full.addMove(19, 0));
        Due.missing("35: no such place, before the limit", () -> full.addMove(20, 0));
        Due.is("35: no more than 60", 60, () -> full.size(1));
        game.lay(1);
        Due.is("36: removeMove", 7, () -> game.removeMove(2));
        Due.is("36: those behind it", "e0 e1 o2 o3 0>1 0>2 1>3 2>0 2>3 3>2 3>3 @1+0 0 1 0 0 0 0 0 0 0 0",
                () -> Due.state(game));
        Due.missing("36: move 7", () -> game.removeMove(7));
        Due.missing("36: move -1", () -> game.removeMove(-1));
        Due.is("36: the last one", 6, () -> game.removeMove(6));
        Due.is("37: preferMove", 2, () -> game.preferMove(3));
        Due.is("37: those ahead of it", "e0 e1 o2 o3 2>0 0>1 0>2 1>3 2>3 3>2 @1+0 0 1 0 0 0 0 0 0 0 0",
                () -> Due.state(game));
        Due.is("37: the first one", 2, () -> game.preferMove(0));
        Due.is("37: the last one", 3, () -> game.preferMove(5));
        Due.is("37: all others move on", "e0 e1 o2 o3 3>2 2>0 0>1 0>2 1>3 2>3 @1+0 0 1 0 0 0 0 0 0 0 0",
                () -> Due.state(game));
        Due.missing("37: move 6", () -> game.preferMove(6));
        Due.missing("37: move -1", () -> game.preferMove(-1));
    }

    private static void fullGame() {
        ParityGame full = full();
        Due.is("36: the last of 60", 59, () -> full.removeMove(59));
        full.undo();
        Due.is("36: the first of 60", 59, () -> full.removeMove(0));
        full.undo();
        int last = full.move(59, 0);
        Due.is("37: the last of 60", last, () -> full.preferMove(59));
        Due.is("32: no moves of 60", 0, () -> full.removePlace(19));
        Due.is("32: all others stay", 60, () -> full.size(1));
        full.undo();
        int itself = full.moveBetween(0, 0) < 0 ? 0 : 1;
        Due.is("32: the first of 20", full.place(0, 2) + full.place(0, 3) - itself, () -> full.removePlace(0));
        full.undo();
        full.setCall(19, 4);
        Due.is("38: twenty places", 9, () -> full.exchange());
        Due.is("38: the last one", 1, () -> full.place(19, 0));
        Due.is("38: the last one", 5, () -> full.place(19, 1));
    }

    private static void exchange() {
        ParityGame game = Due.loaded(ENDS);
        int won = game.won(0);
        game.lay(3);
        Due.is("38: exchange", 8, () -> game.exchange());
        Due.is("38: what is then", "o4 o5 e6 e2 e3 o8 0>1 0>0 1>2 3>4 3>5 4>4 4>3 @0+0 0 0 0 0 1 0 0 0 0 0",
                () -> Due.state(game));
        Due.is("38: each place has the other winner", won, () -> game.won(1));
        Due.is("38: exchange", 9, () -> game.exchange());
        String before = Due.state(game);
        Due.refused("38: a call is 9", () -> game.exchange());
        Due.is("38: nothing changes then", before, () -> Due.state(game));
    }

    private static void token() {
        ParityGame game = new ParityGame();
        Due.is("39: lay", 1, () -> game.lay(3));
        Due.is("39: there", 3, () -> game.size(6));
        Due.is("39: its winner", 0, () -> Due.loaded(ENDS).lay(2));
        Due.missing("39: place 4", () -> game.lay(4));
        Due.missing("39: place -1", () -> game.lay(-1));
        Due.is("40: go", 2, () -> game.go(6));
        Due.is("40: what was heard", "e0 e1 o2 o3 0>1 0>2 1>0 1>3 2>0 2>3 3>2 @2+1 0 0 1 1 0 0 0 0 0 0",
                () -> Due.state(game));
        Due.missing("40: move 7", () -> game.go(7));
        Due.missing("40: move -1", () -> game.go(-1));
        Due.refused("40: from elsewhere", () -> game.go(0));
        Due.is("40: go", 3, () -> game.go(5));
        Due.is("40: laid anew", 1, () -> game.lay(3));
        Due.is("40: nothing was heard before", 0, () -> game.heard(2));
        Due.is("41: run", 100, () -> game.run(100));
        Due.is("41: where it ends", 3, () -> game.size(6));
        Due.is("41: its moves", 100, () -> game.size(7));
        Due.is("41: what was heard", 51, () -> game.heard(3));
        Due.illegal("41: 0", () -> game.run(0));
        Due.illegal("41: 101", () -> game.run(101));
        Due.illegal("41: -1", () -> game.run(-1));
        ParityGame ends = Due.loaded(ENDS);
        Due.is("41: to the end", 2, () -> ends.run(100));
        Due.is("41: at the end", 0, () -> ends.run(1));
        Due.is("41: a change all the same", 1, () -> ends.undo());
        Due.is("41: and the first one", 0, () -> ends.undo());
        Due.is("41: where it was", 0, () -> ends.size(6));
    }

    private static void undoAndSave() {
        ParityGame game = new ParityGame();
        Due.illegal("42: slot 2", () -> game.restore(2));
        Due.illegal("42: slot -1", () -> game.restore(-1));
        Due.refused("42: nothing saved", () -> game.restore(1));
        Due.illegal("44: slot 2", () -> game.save(2));
        Due.illegal("44: slot -1", () -> game.save(-1));
        game.go(0);
        Due.is("44: save", 1, () -> game.save(1));
        Due.is("44: again", 1, () -> game.save(1));
        String saved = Due.state(game);
        Due.is("44: not a change", 0, () -> game.undo());
        Due.is("44: and not undone", 4, () -> game.restore(1));
        Due.is("42: it is back", saved, () -> Due.state(game));
        Due.refused("42: the other slot", () -> game.restore(0));
        game.addPlace(0, 0);
        Due.is("44: the other slot", 2, () -> game.save(0));
        Due.is("42: fewer places", 4, () -> game.restore(1));
        Due.is("42: more places", 5, () -> game.restore(0));
        Due.is("42: it stays saved", 5, () -> game.restore(0));
        Due.is("42: a change", 4, () -> game.undo());
        Due.is("43: a restore undone", 3, () -> game.undo());
        Due.is("43: a restore undone", 4, () -> game.size(0));
        Due.is("43: another", 2, () -> game.undo());
        Due.is("43: another", 5, () -> game.size(0));
        for (int i = 0; i < 13; i++) {
            game.setCall(0, i % 10);
        }
        for (int i = 9; i >= 0; i--) {
            int left = i;
            Due.is("43: undo", left, () -> game.undo());
        }
        Due.is("43: ten are undone", 2, () -> game.place(0, 1));
        Due.refused("43: no more than ten", () -> game.undo());
        game.setCall(0, 7);
        Due.refused("43: a call that throws is no change", () -> {
            game.undo();
            try {
                game.setCall(0, 10);
            } catch (IllegalArgumentException e) {
                return game.undo();
            }
            return 0;
        });
        game.setCall(0, 7);
        game.writePlaces();
        game.undo();
        Due.is("43: the output stays", (int) '7', () -> game.outputByte(1));
        Due.is("44: undo leaves what is saved", 5, () -> game.restore(0));
    }

    private static void output() {
        Due.is("45: places with ends", "e3*>1 e4*>2 o5 o1*>5 o2*>3 e7", () -> Due.written(Due.loaded(ENDS)));
        ParityGame full = full();
        String text = Due.written(full);
        Due.is("45: the length", text.length(), () -> full.writePlaces());
        Due.is("46: the first byte", (int) text.charAt(0), () -> full.outputByte(0));
        Due.is("46: the last byte", (int) text.charAt(text.length() - 1), () -> full.outputByte(text.length() - 1));
        Due.outside("46: behind the last byte", () -> full.outputByte(text.length()));
        Due.outside("46: -1", () -> full.outputByte(-1));
        Due.outside("46: far", () -> full.outputByte(Integer.MAX_VALUE));
        Due.outside("46: far", () -> full.outputByte(Integer.MIN_VALUE));
        Due.is("45: a place of two digits", "e9>10", () -> {
            ParityGame game = Due.loaded("game; even 9 9 9 9 9 9 9 9 9 9 9; move 0 10");
            return Due.written(game).substring(0, 5);
        });
        Due.is("45: a shorter output", 2, () -> {
            ParityGame game = new ParityGame();
            game.writePlaces();
            Due.feed(game, "game; odd 5");
            game.load(11);
            game.outputByte(20);
            return game.writePlaces();
        });
        Due.is("45: the longest output", 139, () -> longest().writePlaces());
        Due.is("45: the longest output", 139 - 20, () -> longestLost().writePlaces());
    }

    /** 20 places, each moving to place 19 and won by its owner. */
    private static ParityGame longest() {
        return Due.loaded("game; even 8 8 8 8 8 8 8 8 8 8 8 8 8 8 8 8 8 8 8 8; " + toLast());
    }

    private static ParityGame longestLost() {
        return Due.loaded("game; even 9 9 9 9 9 9 9 9 9 9 9 9 9 9 9 9 9 9 9 9; " + toLast());
    }

    private static String toLast() {
        StringBuilder text = new StringBuilder();
        for (int from = 0; from < 20; from++) {
            text.append(from == 0 ? "" : ";").append("move ").append(from).append(" 19");
        }
        return text.toString();
    }
}
