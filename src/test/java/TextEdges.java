/** Sentences about the input: promises 1 to 5 and the descriptions. */
abstract class TextEdges extends Edge {
    static void make() {
        newObject();
        feeding();
        loading();
        loadingAgain();
        errorsAsked();
        grammar();
        tokens();
        errors();
        limits();
    }

    /** The text has this error. */
    private static void error(String text, int code, int position) {
        ParityGame game = new ParityGame();
        Due.feed(game, text);
        is(text, "throws.IllegalStateException", () -> game.load(text.length()));
        is(text + ", code", code, () -> game.errorCode());
        is(text + ", position", position, () -> game.errorPosition());
    }

    /** The text is right, and this is what it says (as Due.state tells it). */
    private static void right(String text, String state) {
        ParityGame game = new ParityGame();
        Due.feed(game, text);
        is(text, state.split("[eo]").length - 1, () -> game.load(text.length()));
        is(text + ", code", 0, () -> game.errorCode());
        is(text + ", position", -1, () -> game.errorPosition());
        is(text + ", what it says", state, () -> Due.state(game));
    }

    private static final String ONE_5 = "o5 @0+0 0 0 0 0 0 1 0 0 0 0";

    private static void newObject() {
        edge(1, "Creates the workbench that is described above.", () -> {
            is("e0 e1 o2 o3 0>1 0>2 1>0 1>3 2>0 2>3 3>2 @0+0 1 0 0 0 0 0 0 0 0 0", () -> Due.state(new ParityGame()));
            ParityGame other = new ParityGame();
            other.addPlace(0, 0);
            other.setCall(0, 9);
            other.save(0);
            other.writePlaces();
            is("another one beside it", 4, () -> new ParityGame().size(0));
        });
        edge("Terms", "A new workbench is as if the description \"game; even 0 1; odd 2 3; move 0 1 2; move 1 0 3; "
                + "move 2 0 3; move 3 2\" had been loaded, with empty buffers.", () -> {
            String text = "game; even 0 1; odd 2 3; move 0 1 2; move 1 0 3; move 2 0 3; move 3 2";
            is(whole(Due.loaded(text)), () -> whole(new ParityGame()));
            is("no input", "throws.IllegalArgumentException", () -> new ParityGame().load(1));
            is("no input", 20, () -> new ParityGame().feed(0, 0, 0, 0, 0));
            is("no output", "throws.IndexOutOfBoundsException", () -> new ParityGame().outputByte(0));
            is("no change", "throws.IllegalStateException", () -> new ParityGame().undo());
            is("slot 0", "throws.IllegalStateException", () -> new ParityGame().restore(0));
            is("slot 1", "throws.IllegalStateException", () -> new ParityGame().restore(1));
        });
    }

    private static void feeding() {
        edge(2, "Appends 20 bytes to the input buffer: the four bytes of each parameter in order, the most significant "
                + "byte first.", () -> {
            // "game;even 1 2; odd 3"
            ParityGame game = new ParityGame();
            game.feed(0x67616d65, 0x3b657665, 0x6e203120, 0x323b206f, 0x64642033);
            is(3, () -> game.load(20));
            is("e1 e2 o3 @0+0 0 1 0 0 0 0 0 0 0 0", () -> Due.state(game));
            ParityGame behind = new ParityGame();
            behind.feed(0x67616d65, 0x3b657665, 0x6e202020, 0x20202020, 0x20202020);
            behind.feed(0x20202020, 0x20202020, 0x20202020, 0x20202020, 0x20202035);
            is("behind what is there", 1, () -> behind.load(40));
            is("the last byte", 5, () -> behind.place(0, 1));
            // The highest bit of a byte belongs to it: 0xb2 is no "2", and the first byte of a negative number counts.
            ParityGame high = new ParityGame();
            high.feed(0x67616d65, 0x3b657665, 0x6e2031b2, 0xe7ffffff, -1);
            is("high bytes", "throws.IllegalStateException", () -> high.load(20));
            is("high bytes", 11, () -> high.errorPosition());
            high.feed(0xe7616d65, 0, 0, 0, Integer.MIN_VALUE);
            is("a high first byte", "throws.IllegalStateException", () -> high.load(4));
            is("a high first byte", 0, () -> high.errorPosition());
        });
        edge(2, "Returns the new length of the buffer.", () -> {
            ParityGame game = new ParityGame();
            for (int i = 1; i <= 30; i++) {
                int length = 20 * i;
                is(length, () -> game.feed(-1, 0, 1, Integer.MIN_VALUE, Integer.MAX_VALUE));
            }
        });
        edge(2, "Throws IllegalStateException if the length would exceed 600; nothing is appended then", () -> {
            Made full = () -> {
                ParityGame game = new ParityGame();
                Due.feed(game, "game; odd 5" + " ".repeat(589));
                return game;
            };
            throwing("IllegalStateException", full, new int[] {0, -1, 0x20202020}, (game, a) -> game.feed(a, a, a, a, a));
            ParityGame game = full.game();
            is("at 600", "throws.IllegalStateException", () -> game.feed(1, 1, 1, 1, 1));
            is("no more than 600", "throws.IllegalArgumentException", () -> game.load(601));
            is("what was there", 1, () -> game.load(600));
            ParityGame last = new ParityGame();
            Due.feed(last, "x".repeat(580));
            is("from 580 to 600", 600, () -> last.feed(1, 1, 1, 1, 1));
        });
    }

    private static void loading() {
        edge(3, "Parses the first length bytes of the buffer as a description.", () -> {
            String text = "game; odd 5 6";
            for (int length = 0; length <= text.length(); length++) {
                int end = length;
                ParityGame game = new ParityGame();
                Due.feed(game, text + "?");
                Object due = length < 11 ? "throws.IllegalStateException" : (Object) (length < 13 ? 1 : 2);
                is("length " + length, due, () -> game.load(end));
            }
        });
        edge(3, "Without an error, it replaces everything; no change can be undone, and nothing is saved; only the output "
                + "buffer stays.", () -> {
            ParityGame game = rich();
            game.save(1);
            String output = output(game);
            is("a longer text was fed", 1, () -> game.load(11));
            is("everything", ONE_5, () -> Due.state(game));
            is("who wins", 1, () -> game.won(0));
            is("no move", "throws.NoSuchElementException", () -> game.move(0, 0));
            is("no change", "throws.IllegalStateException", () -> game.undo());
            is("slot 0", "throws.IllegalStateException", () -> game.restore(0));
            is("slot 1", "throws.IllegalStateException", () -> game.restore(1));
            is("slots", 1, () -> game.save(0));
            Due.feed(game, "game; odd 5 6 7; even 0; move 0 0; token 2");
            is("a token line", 4, () -> game.load(42));
            game.lay(1);
            game.run(9);
            Due.feed(game, "game; even 5");
            is("a shorter text", 1, () -> game.load(12));
            is("nothing is left of the earlier one", told(Due.loaded("game; even 5")), () -> told(game));
            is("output", output, () -> output(game));
            is("the first of its bytes", "e", () -> output.substring(0, 1));
        });
        edge(3, "The input buffer is emptied unless an IllegalArgumentException is thrown.", () -> {
            ParityGame game = rich();
            game.load(11);
            is("behind a part", 20, () -> game.feed(0, 0, 0, 0, 0));
            Due.feed(game, "game; odd 5");
            is("a wrong text", "throws.IllegalStateException", () -> game.load(40));
            is("behind an error", "throws.IllegalArgumentException", () -> game.load(1));
            is("behind an error", 20, () -> game.feed(0, 0, 0, 0, 0));
            ParityGame kept = rich();
            is("too long", "throws.IllegalArgumentException", () -> kept.load(41));
            is("it is not emptied", 60, () -> kept.feed(0, 0, 0, 0, 0));
            is("what was there", 1, () -> kept.load(11));
            ParityGame negative = rich();
            is("negative", "throws.IllegalArgumentException", () -> negative.load(-1));
            is("it is not emptied", 40, () -> inputLength(negative));
            ParityGame none = rich();
            is("an empty text", "throws.IllegalStateException", () -> none.load(0));
            is("behind an empty text", "throws.IllegalArgumentException", () -> none.load(1));
        });
        edge(3, "- length: number of bytes, 0 to the length of the buffer", () -> {
            is("0 of 0", "throws.IllegalStateException", () -> new ParityGame().load(0));
            is("0 of 40", "throws.IllegalStateException", () -> rich().load(0));
            ParityGame whole = new ParityGame();
            Due.feed(whole, "game; odd 5" + " ".repeat(9));
            is("20 of 20", 1, () -> whole.load(20));
            Due.feed(whole, "game; odd 5" + " ".repeat(589));
            is("600 of 600", 1, () -> whole.load(600));
        });
        edge(3, "Returns the quantity of places.", () -> {
            is("one", 1, () -> rich().load(11));
            ParityGame game = new ParityGame();
            Due.feed(game, FULL);
            is("twenty", 20, () -> game.load(FULL.length()));
        });
    }

    private static void loadingAgain() {
        edge(3, "Throws IllegalArgumentException if length is out of range; errorCode() and errorPosition() do not change "
                + "then", () -> {
            illegal(new int[] {-1, 41, 600, 601, Integer.MIN_VALUE, Integer.MAX_VALUE}, ParityGame::load);
            throwing("IllegalArgumentException", ParityGame::new, new int[] {-1, 1, 20, 600}, ParityGame::load);
            ParityGame game = rich();
            is("too long", "throws.IllegalArgumentException", () -> game.load(41));
            is("errorCode", 2, () -> game.errorCode());
            is("errorPosition", 13, () -> game.errorPosition());
        });
        edge(3, "Throws IllegalStateException if the text has an error; then only the input buffer, errorCode() and "
                + "errorPosition() change", () -> {
            ParityGame game = rich();
            is("an error at its end", "throws.IllegalStateException", () -> game.load(40));
            is("errorCode", 1, () -> game.errorCode());
            is("errorPosition", 23, () -> game.errorPosition());
            String[] due = whole(rich()).replaceAll("\\|input.*", "").split("\\|error [-0-9 ]*");
            String[] left = whole(game).replaceAll("\\|input.*", "").split("\\|error [-0-9 ]*");
            is("the game", due[0], () -> left[0]);
            is("output, changes, what is saved", due[1], () -> left[1]);
            is("two parts", 2, () -> due.length);
            ParityGame emptied = rich();
            is("an error", "throws.IllegalStateException", () -> emptied.load(4));
            is("the input buffer", 0, () -> inputLength(emptied));
        });
    }

    private static void errorsAsked() {
        edge(4, "Returns the code of the error found by the latest call of load() that parsed a text; 0 if it found none "
                + "or there was no such call.", () -> {
            is("no such call", 0, () -> new ParityGame().errorCode());
            ParityGame game = new ParityGame();
            is("it did not parse", "throws.IllegalArgumentException", () -> game.load(1));
            is("no call that parsed", 0, () -> game.errorCode());
            wrong(game, "game; even 77");
            is("an error", 2, () -> game.errorCode());
            is("it did not parse", "throws.IllegalArgumentException", () -> game.load(1));
            is("the latest that parsed", 2, () -> game.errorCode());
            wrong(game, "game");
            is("another error", 6, () -> game.errorCode());
            Due.feed(game, "game; odd 5");
            game.load(11);
            is("none", 0, () -> game.errorCode());
        });
        edge(5, "Returns the position of that error; -1 if there is none.", () -> {
            is("no such call", -1, () -> new ParityGame().errorPosition());
            ParityGame game = new ParityGame();
            wrong(game, "?");
            is("the first byte", 0, () -> game.errorPosition());
            is("it did not parse", "throws.IllegalArgumentException", () -> game.load(1));
            is("the latest that parsed", 0, () -> game.errorPosition());
            wrong(game, "game; odd 5" + " ".repeat(588) + "?");
            is("the last byte of 600", 599, () -> game.errorPosition());
            wrong(game, "game; odd 5" + " ".repeat(588) + ";");
            is("behind 600 bytes", 600, () -> game.errorPosition());
            Due.feed(game, "game; odd 5");
            game.load(11);
            is("none", -1, () -> game.errorPosition());
        });
    }

    private static void grammar() {
        edge("Terms", "description = \"game\" { \";\" line } ({ X } means any number of X, | separates alternatives)", () -> {
            error("game", 6, 4);
            error("", 1, 0);
            error(";odd 5", 1, 0);
            error("odd 5", 1, 0);
            error("game;", 1, 5);
            error("game;;odd 5", 1, 5);
            error("game;odd 5;", 1, 11);
            error("game odd 5", 1, 5);
            error("game;game;odd 5", 1, 5);
            right("game;odd 5", ONE_5);
            right("game;odd 5;token 0;token 0;token 0;token 0;token 0;token 0;token 0;token 0;token 0;token 0", ONE_5);
        });
        edge("Terms", "line = ( \"even\" | \"odd\" ) NUMBER { NUMBER } | \"move\" NUMBER NUMBER { NUMBER } | \"token\" NUMBER",
                () -> {
            error("game;even", 1, 9);
            error("game;even;odd 5", 1, 9);
            error("game;odd", 1, 8);
            error("game;odd 5 even 5", 1, 11);
            error("game;odd 5;move", 1, 15);
            error("game;odd 5;move 0", 1, 17);
            error("game;odd 5;move 0;token 0", 1, 17);
            error("game;odd 5;move 0 move", 1, 18);
            error("game;odd 5;token", 1, 16);
            error("game;odd 5;token;token 0", 1, 16);
            error("game;odd 5;token 0 0", 1, 19);
            error("game;odd 5;token token", 1, 17);
            error("game;odd 5;0", 1, 11);
            error("game;odd 5;wait 0", 1, 11);
            right("game;odd 5;move 0 0;token 0", "o5 0>0 @0+0 0 0 0 0 0 1 0 0 0 0");
        });
        edge("Terms", "\"even\" adds a place of player 0, \"odd\" one of player 1, for each number, which is its call.",
                () -> {
            right("game;even 0", "e0 @0+0 1 0 0 0 0 0 0 0 0 0");
            right("game;odd 9", "o9 @0+0 0 0 0 0 0 0 0 0 0 1");
            right("game;even 9 0 9;odd 0 9;even 1", "e9 e0 e9 o0 o9 e1 @0+0 0 0 0 0 0 0 0 0 0 1");
        });
        edge("Terms", "\"move\" adds a move from the first place to each of the others, in this order.", () -> {
            right("game;odd 5 5 5;move 1 2;move 1 1 0;move 0 1",
                    "o5 o5 o5 1>2 1>1 1>0 0>1 @0+0 0 0 0 0 0 1 0 0 0 0");
            is("sixty", "2>19 ", () -> Due.state(Due.loaded(FULL)).replaceAll(".* (2>19 )@.*", "$1"));
        });
        edge("Terms", "\"token\" lays the token at a place; the last such line counts.", () -> {
            right("game;odd 5 6;token 1", "o5 o6 @1+0 0 0 0 0 0 0 1 0 0 0");
            right("game;odd 5 6;token 1;token 0", "o5 o6 @0+0 0 0 0 0 0 1 0 0 0 0");
            right("game;odd 5;token 0;odd 6;token 1;odd 7", "o5 o6 o7 @1+0 0 0 0 0 0 0 1 0 0 0");
            right("game;odd 5 6", "o5 o6 @0+0 0 0 0 0 0 1 0 0 0 0");
        });
        edge("Terms", "Places are those of earlier lines.", () -> {
            error("game;token 0;odd 5", 3, 11);
            error("game;move 0 0;odd 5", 3, 10);
            error("game;odd 5;move 0 1;odd 5", 3, 18);
            error("game;odd 5;token 1;odd 5", 3, 17);
            right("game;odd 5;move 0 0;odd 5;move 1 0", "o5 o5 0>0 1>0 @0+0 0 0 0 0 0 1 0 0 0 0");
        });
    }

    private static void tokens() {
        edge("Terms", "A token of the text is a word (a run of letters a to z), a number (a run of digits), or a semicolon, "
                + "and is as long as possible.", () -> {
            error("gam", 1, 0);
            error("gamee;odd 5", 1, 0);
            error("fame;odd 5", 1, 0);
            error("game;add 5", 1, 5);
            error("game;odd 5;love 0 0", 1, 11);
            error("ga me;odd 5", 1, 0);
            error("game;oddz 5", 1, 5);
            error("game;aodd 5", 1, 5);
            error("game;od d 5", 1, 5);
            error("game;odd 12", 2, 9);
            right("game;odd 1 2", "o1 o2 @0+0 0 1 0 0 0 0 0 0 0 0");
            right("game;odd 005", ONE_5);
        });
        edge("Terms", "Spaces (byte 32) and line feeds (byte 10) may stand between any two tokens and at both ends.", () -> {
            right(" game;odd 5", ONE_5);
            right("\ngame;odd 5", ONE_5);
            right("game ;odd 5", ONE_5);
            right("game\n;\nodd\n5\n", ONE_5);
            right("game; \n odd \n\n 5 ", ONE_5);
            right("game;odd 5 6;move 0 1 ; token\n1\n", "o5 o6 0>1 @1+0 0 0 0 0 0 0 1 0 0 0");
            right(" ".repeat(589) + "\ngame;odd 5", ONE_5);
            for (int sign : new int[] {0, 9, 11, 12, 13, 31, 33, 160}) {
                error("game; " + (char) sign + "odd 5", 1, 6);
            }
        });
        edge("Terms", "A word or number directly behind a word or number needs at least one of them between.", () -> {
            right("game;odd 5", ONE_5);
            right("game;odd\n5", ONE_5);
            error("game;odd5", 1, 8);
            error("game;odd 5token 0", 1, 10);
            error("game;odd 5;move 0 0odd", 1, 19);
        });
    }

    private static void errors() {
        edge("Terms", "The error with the least position (byte index from 0; of a token its first byte) is reported, of "
                + "several at one position the least code:", () -> {
            error("?ame;odd 5", 1, 0);
            error("game;odd 10;odd ?", 2, 9);
            error("game;odd ?;odd 10", 1, 9);
            error("game;odd 5;token 77 ?", 3, 17);
            error("game;odd 5;move 0 0 0 9 ?", 4, 20);
            error("game;odd 5;move 0 9 0 0 ?", 3, 18);
            error("game;odd 5;token 999;", 3, 17);
            // At the end of the text: where more is needed, and no place.
            error("game;", 1, 5);
            error("   ", 1, 3);
            // Where more is needed ahead of the end there is another token.
            error("game ;token", 1, 11);
            error(TWENTY + " 10", 2, TWENTY.length() + 1);
            error(TWENTY + " 1000", 1, TWENTY.length() + 1);
            error(FULL + ";move 3 20", 3, FULL.length() + 8);
            error(FULL + ";move 2 19", 4, FULL.length() + 8);
            error(FULL + ";move 2 1000", 1, FULL.length() + 8);
        });
        edge("Terms", "- 1 SYNTAX: a token that the grammar does not allow there;", () -> {
            error("5", 1, 0);
            error(";", 1, 0);
            error("even", 1, 0);
            error("game game", 1, 5);
            error("game 5", 1, 5);
            error("game;odd;", 1, 8);
            error("game;odd odd", 1, 9);
            error("game;odd 5 odd", 1, 11);
            error("game;odd 5;;", 1, 11);
            error("game;odd 5;move;", 1, 15);
            error("game;odd 5;move 0;", 1, 17);
            error("game;odd 5;move odd", 1, 16);
            error("game;odd 5;move 0 0 odd", 1, 20);
            error("game;odd 5;token;", 1, 16);
            error("game;odd 5;token 0 odd", 1, 19);
        });
        edge("Terms", "a word or number directly behind a word or number;", () -> {
            error("game5", 1, 4);
            error("game;odd5", 1, 8);
            error("game;odd 5x", 1, 10);
            error("game;odd 5;move 0 0x", 1, 19);
            error("game;odd 5;token 0x", 1, 18);
            error("game;odd 5;token0", 1, 16);
            error("game;odd 5 6x7", 1, 12);
        });
        edge("Terms", "a number of more than 3 digits;", () -> {
            error("game;odd 1000", 1, 9);
            error("game;odd 0005", 1, 9);
            error("game;odd 5 0000", 1, 11);
            error("game;odd 99999999999999999999", 1, 9);
            error("game;odd 4294967296", 1, 9);
            error("game;odd 4294967301", 1, 9);
            error("game;odd 5;move 0000 0", 1, 16);
            error("game;odd 5;move 0 0000", 1, 18);
            error("game;odd 5;token 0000", 1, 17);
            right("game;odd 005;token 000", ONE_5);
            error("game;odd 999", 2, 9);
        });
        edge("Terms", "any other byte;", () -> {
            for (int sign = 0; sign < 256; sign++) {
                boolean known = sign == ' ' || sign == '\n' || sign == ';' || sign >= '0' && sign <= '9'
                        || sign >= 'a' && sign <= 'z';
                if (!known) {
                    error("game;odd 5 " + (char) sign, 1, 11);
                }
            }
            error("Game;odd 5", 1, 0);
            error("game;odd 5;move 0 0\0", 1, 19);
            error("game;odd -5", 1, 9);
        });
        edge("Terms", "the end of the text where more is needed (position: the length).", () -> {
            error("", 1, 0);
            error(" \n", 1, 2);
            error("game;", 1, 5);
            error("game;  ", 1, 7);
            error("game;odd", 1, 8);
            error("game;odd ", 1, 9);
            error("game;odd 5;", 1, 11);
            error("game;odd 5;move", 1, 15);
            error("game;odd 5;move 0\n", 1, 18);
            error("game;odd 5;token", 1, 16);
            error("game;odd 5;" + " ".repeat(589), 1, 600);
        });
    }

    private static void limits() {
        edge("Terms", "- 2 RANGE: a call out of its range.", () -> {
            right("game;odd 9", "o9 @0+0 0 0 0 0 0 0 0 0 0 1");
            right("game;odd 0", "o0 @0+0 1 0 0 0 0 0 0 0 0 0");
            error("game;odd 10", 2, 9);
            error("game;even 10", 2, 10);
            error("game;odd 010", 2, 9);
            error("game;odd 999", 2, 9);
            error("game;odd 9 0 9 10 0", 2, 15);
        });
        edge("Terms", "- 3 UNKNOWN: the number of a place that there is not.", () -> {
            right("game;odd 5 5;move 1 1;token 1", "o5 o5 1>1 @1+0 0 0 0 0 0 1 0 0 0 0");
            error("game;odd 5 5;move 2 0", 3, 18);
            error("game;odd 5 5;move 0 2", 3, 20);
            error("game;odd 5 5;move 0 1 0 2", 3, 24);
            error("game;odd 5 5;token 2", 3, 19);
            error("game;odd 5 5;token 999", 3, 19);
            error("game;token 0", 3, 11);
            error("game;move 0 0", 3, 10);
            error(TWENTY + ";token 20", 3, TWENTY.length() + 7);
            is("the last one of twenty", 19, () -> Due.loaded(TWENTY + ";token 19").size(6));
        });
        edge("Terms", "- 4 DUPLICATE: the number of a place to which there is a move from the first one.", () -> {
            error("game;odd 5 5;move 0 0 0", 4, 22);
            error("game;odd 5 5;move 0 1 0 1", 4, 24);
            error("game;odd 5 5;move 0 1;move 1 0;move 0 1", 4, 38);
            right("game;odd 5 5;move 0 1;move 1 0", "o5 o5 0>1 1>0 @0+0 0 0 0 0 0 1 0 0 0 0");
        });
        edge("Terms", "- 5 LIMIT: the call of a 21st place, or the second or a later number behind \"move\" that would be "
                + "that of a 61st move.", () -> {
            is("twenty", 20, () -> Due.loaded(TWENTY).size(0));
            error(TWENTY + " 0", 5, TWENTY.length() + 1);
            error(TWENTY + ";even 9", 5, TWENTY.length() + 6);
            is("sixty", 60, () -> Due.loaded(FULL).size(1));
            error(FULL + ";move 3 0", 5, FULL.length() + 8);
            error(FULL.substring(0, FULL.length() - 3) + ";move 3 0 1 2", 5, FULL.length() - 3 + 10);
            // The first number behind "move" is no move yet.
            error(FULL + ";move 3", 1, FULL.length() + 7);
            error(FULL + ";move 20 0", 3, FULL.length() + 6);
            right(TWENTY + ";token 19".repeat(2), Due.state(Due.loaded(TWENTY + ";token 19")));
        });
        edge("Terms", "- 6 COUNT: the end of the text, if there is no place (position: the length).", () -> {
            error("game", 6, 4);
            error("game ", 6, 5);
            error("\ngame\n\n", 6, 7);
            error("game" + " ".repeat(596), 6, 600);
            right("game;odd 5", ONE_5);
        });
    }
}
