import java.util.function.Supplier;

/** The sentences of texts, images and of what there is, promises 30 to 37; and those of all calls. */
final class TextEdges {
    private static final String TERMS = "Terms";
    private static final int CUTS = 0, WOOD = 1, LICHEN = 2, FIND = 3, MAP = 4;
    private static final int AT = 0, FREE = 1, ICE = 2;

    private TextEdges() {
    }

    static void look(Edges e) {
        items(e);
        tokens(e);
        faults(e);
        comesToWhatIsThere(e);
        images(e);
        allCalls(e);
        typeCalls(e);
        readCalls(e);
        imageCalls(e);
        countCalls(e);
    }

    private static long[] args(long... args) {
        return args;
    }

    private static void fault(Check c, int due, String text) {
        StoneRiver x = Worlds.typed(text);
        c.same("count(6) of '" + text + "'", text.length(), x.count(6));
        c.same("fault() of '" + text + "'", due, x.fault());
    }

    private static void items(Edges e) {
        e.of(TERMS, "THE TEXT (240 bytes at most) tells what was found:", c -> {
            StoneRiver x = Worlds.typed(Worlds.blanks(234) + "ridge;");
            c.due(240, x, "count", 6);
            c.due(-4, x, "type", ' ', 1);
            c.due(-1, x, "fault");
            c.due(1, x, "read");
            c.due(1, x, "count", 3);
            StoneRiver y = Worlds.typed(Worlds.blanks(239));
            c.due(240, y, "type", ' ', 1);
        });
        e.of(TERMS, "ITEMS, each ended by ; :", c -> {
            fault(c, -1, "ridge;");
            fault(c, 5, "ridge");
            fault(c, 12, "ridge; ridge");
            fault(c, -1, "ridge;ridge;");
            fault(c, 6, "ridge ridge;");
            fault(c, 6, "ridge;;");
            fault(c, 0, ";");
            c.due(2, Worlds.typed("ridge;ridge;"), "read");
        });
        e.of(TERMS, "cliff PLACE SORT;", c -> item(c, "cliff 63 5", 2));
        e.of(TERMS, "boulder PLACE SORT;", c -> item(c, "boulder 62 4", 2));
        e.of(TERMS, "scratch PLACE DIRECTION;", c -> item(c, "scratch 61 15", 2));
        e.of(TERMS, "ridge;", c -> item(c, "ridge", 0));
        e.of(TERMS, "cuts S a b;", c -> item(c, "cuts 1 2 0", 3));
        e.of(TERMS, "wood S a b c;", c -> item(c, "wood 1 2 998 999", 4));
        e.of(TERMS, "lichen S a b;", c -> item(c, "lichen 1 2 300", 3));
        e.of(TERMS, "find S a b;", c -> item(c, "find 1 2 999", 3));
        e.of(TERMS, "map S a b; (S the SCHOLAR)", c -> item(c, "map 1 2 999", 3));
        e.of(TERMS, "at x p q;", c -> item(c, "at 20 38 39", 3));
        e.of(TERMS, "free x p q (KIND 1);", c -> item(c, "free 19 37 38", 3));
        e.of(TERMS, "ice x p q (KIND 2).", c -> item(c, "ice 18 36 37", 3));
    }

    /** The item by its call; and a fault where one of its numbers is missing, or one too many is there. */
    private static void item(Check c, String item, int numbers) {
        String[] words = item.split(" ");
        c.same("numbers of " + item, numbers, words.length - 1);
        StoneRiver called = Worlds.ridges(3);
        long[] n = new long[numbers];
        for (int i = 0; i < numbers; i++) {
            n[i] = Long.parseLong(words[1 + i]);
        }
        c.same("the call of " + item, words[0].equals("ridge") ? 3 : 0, called(called, words[0], n));
        StoneRiver read = Worlds.ridges(3);
        Worlds.type(read, item + ";");
        c.due(-1, read, "fault");
        c.due(1, read, "read");
        c.same("digest after " + item, called.digest(), read.digest());
        fault(c, item.length() + 1, item + " 1;");
        fault(c, item.length(), item);
        if (numbers > 0) {
            String shorter = item.substring(0, item.lastIndexOf(' '));
            fault(c, shorter.length(), shorter + ";");
            fault(c, item.lastIndexOf(' ') + 1, shorter + " x;");
        }
        fault(c, 0, "x" + item + ";");
        fault(c, 0, item.substring(1) + ";");
        // another letter, and one too few
        for (int i = 0; i < words[0].length(); i++) {
            fault(c, 0, item.substring(0, i) + "q" + item.substring(i + 1) + ";");
            fault(c, 0, item.substring(0, i) + item.substring(i + 1) + ";");
        }
    }

    private static long called(StoneRiver x, String word, long[] n) {
        switch (word) {
            case "cuts": return Check.call(x, "fact", n[0], CUTS, n[1], n[2], 0);
            case "wood": return Check.call(x, "fact", n[0], WOOD, n[1], n[2], n[3]);
            case "lichen": return Check.call(x, "fact", n[0], LICHEN, n[1], n[2], 0);
            case "find": return Check.call(x, "fact", n[0], FIND, n[1], n[2], 0);
            case "map": return Check.call(x, "fact", n[0], MAP, n[1], n[2], 0);
            case "at": return Check.call(x, "sign", AT, n[0], n[1], n[2]);
            case "free": return Check.call(x, "sign", FREE, n[0], n[1], n[2]);
            case "ice": return Check.call(x, "sign", ICE, n[0], n[1], n[2]);
            default: return Check.call(x, word, n);
        }
    }

    private static void tokens(Edges e) {
        e.of(TERMS, "TOKENS: words of letters a .. z,", c -> {
            // a run of letters is one word, of what length it is
            for (char letter = 'a'; letter <= 'z'; letter++) {
                fault(c, 0, "ridge" + letter + ";");
                fault(c, 0, letter + "ridge;");
                fault(c, 6, "cliff " + letter + ";");
            }
            fault(c, 0, "ridgeridge;");
            fault(c, 0, "boulderscratch 1 2;");
            fault(c, 0, "r");
            fault(c, 0, "ridg");
            fault(c, 0, "a".repeat(240));
            // a word ends with the text, whatever the text had there ahead
            StoneRiver x = Worlds.typed("ridgeridge");
            x.clear();
            Worlds.type(x, "ridge");
            c.due(5, x, "fault");
            x.clear();
            Worlds.type(x, "rid");
            c.due(0, x, "fault");
            fault(c, 5, "ridge`;");
            fault(c, 5, "ridge{;");
            fault(c, 0, "Ridge;");
            fault(c, 0, "ridGe;");
            fault(c, 5, "ridgeE;");
        });
        e.of(TERMS, "figures (1 to 4 are one number), ; ;", c -> {
            for (String figures : new String[] {"0", "9", "01", "000", "0005", "1234", "9999"}) {
                fault(c, -1, "cliff " + figures + " 0;");
                fault(c, -1, "cliff 0 " + figures + ";");
            }
            fault(c, 7, "cliff 0/1;");
            fault(c, 7, "cliff 0:1;");
            StoneRiver x = Worlds.typed("cliff 0063 0005;boulder 010 01;");
            c.due(2, x, "read");
            StoneRiver y = new StoneRiver();
            y.cliff(63, 5);
            y.boulder(10, 1);
            c.due(y.digest(), x, "digest");
            c.due(-1000, Worlds.typed("cliff 9999 0;"), "read");
            c.due(-1000, Worlds.typed("cliff 64 0;"), "read");
            // a number ends with the text, whatever the text had there ahead
            fault(c, 240, "cliff 1" + " ".repeat(232) + "2");
            StoneRiver z = Worlds.typed("cliff 1 22222");
            z.clear();
            Worlds.type(z, "cliff 1 2222");
            c.due(12, z, "fault");
            Worlds.type(z, ";");
            c.due(-1, z, "fault");
        });
        e.of(TERMS, "any number of blanks (32) ahead of, between, behind them (needed only between two words, two "
                + "numbers).", TextEdges::blanks);
    }

    private static void blanks(Check c) {
        fault(c, -1, "   cliff   1   2   ;   ridge   ;   ");
        fault(c, -1, "cliff1 2;boulder3 4;ridge;at5 6 7;");
        fault(c, -1, " ".repeat(225) + "cliff 1 2;" + " ".repeat(5));
        fault(c, -1, "cliff" + " ".repeat(230) + "1 2;");
        // two numbers without one are one number, two words one word
        fault(c, 8, "cliff 12;");
        fault(c, 0, "ridgecliff 1 2;");
        for (char none : new char[] {0, 9, 10, 13, 31, 33, 160, 255}) {
            fault(c, 5, "ridge" + none + ";");
            fault(c, 0, none + "ridge;");
            fault(c, 6, "ridge;" + none);
        }
        StoneRiver x = Worlds.typed("  cliff1   2 ; boulder3 4;  ");
        c.due(2, x, "read");
        StoneRiver y = new StoneRiver();
        y.cliff(1, 2);
        y.boulder(3, 4);
        c.due(y.digest(), x, "digest");
    }

    private static void faults(Edges e) {
        e.of(TERMS, "FAULT: the place of the first byte of the first TOKEN that can not stand there", c -> {
            fault(c, 0, "7;");
            fault(c, 2, "  7 ; ridg");
            fault(c, 6, "cliff cliff 1;");
            fault(c, 8, "cliff 1 cliff;");
            fault(c, 10, "cliff 1 2 cliff;");
            fault(c, 10, "cliff 1 2 333;");
            fault(c, 5, "cliff; ridg;");
            fault(c, 7, "cliff 1; 2;");
            fault(c, 13, "ridge; ridge 88;");
            fault(c, 7, "ridge; ;");
        });
        e.of(TERMS, "(a word that is none,", c -> {
            fault(c, 0, "stone 1 2;");
            fault(c, 2, "  stone");
            fault(c, 6, "ridge stone;");
            fault(c, 6, "ridge;stone;");
            fault(c, 8, "cliff 1 stone;");
            fault(c, 0, "s");
            // longer than any, and longer than one by a letter
            for (String word : new String[] {"cliffs", "boulders", "scratchs", "scratchess", "ridges", "cutss", "woods",
                "lichens", "finds", "maps", "ats", "frees", "ices", "abcdefgh", "abcdefghi"}) {
                fault(c, 0, word + " 1 2 3;");
            }
        });
        e.of(TERMS, "a run of five figures or more (at its first one),", c -> {
            for (String figures : new String[] {"12345", "00000", "99999", "123456", "4294967296", "1".repeat(200)}) {
                fault(c, 0, figures);
                fault(c, 6, "cliff " + figures + " 2;");
                fault(c, 8, "cliff 1 " + figures + ";");
                fault(c, 6, "ridge " + figures + ";");
            }
        });
        e.of(TERMS, "a byte that begins none, too);", c -> {
            for (char sign = 0; sign < 256; sign++) {
                if (sign >= 'a' && sign <= 'z') {
                    fault(c, 0, "ridge" + sign + ";");
                } else if (sign == ' ') {
                    fault(c, -1, "ridge" + sign + ";");
                } else {
                    fault(c, sign == ';' ? 6 : 5, "ridge" + sign + ";");
                    fault(c, sign >= '0' && sign <= '9' ? 9 : 7, "cliff 1" + sign + "2;");
                }
            }
        });
        e.of(TERMS, "THE TEXT's length, if it ends too early", c -> {
            String text = " cliff 12 3 ;ridge;";
            int[] due = {-1, -1, 1, 1, 1, 1, 6, 7, 8, 9, 10, 11, 12, -1, 13, 13, 13, 13, 18, -1};
            for (int length = 0; length <= text.length(); length++) {
                fault(c, due[length], text.substring(0, length));
            }
            fault(c, 9, "cliff    ");
            fault(c, 240, "ridge" + " ".repeat(235));
            fault(c, 240, "ridge;".repeat(39) + "ridge ");
            fault(c, 239, "ridge;".repeat(39) + "ridge");
        });
        e.of(TERMS, "(one that is empty or has blanks alone has none).", c -> {
            c.due(-1, new StoneRiver(), "fault");
            for (int many : new int[] {1, 2, 8, 239, 240}) {
                fault(c, -1, Worlds.blanks(many));
            }
            StoneRiver x = Worlds.typed("ridg;");
            x.clear();
            c.due(-1, x, "fault");
        });
    }

    private static void comesToWhatIsThere(Edges e) {
        e.of(TERMS, "It comes to what is there, item by item;", c -> {
            StoneRiver x = new StoneRiver();
            x.ridge();
            x.cliff(1, 1);
            Worlds.type(x, "find 0 0 5;ridge;cuts 1 1 0;cliff 2 2;");
            c.due(4, x, "read");
            c.due(2, x, "count", 3);
            c.due(2, x, "count", 0);
            c.due(2, x, "count", 4);
            c.due(4, x, "age", 1, 3, 1);
            // not before its own item has come
            c.due(-1000, Worlds.typed("find 0 0 5;ridge;"), "read");
            c.due(2, Worlds.typed("ridge;find 0 0 5;"), "read");
        });
        e.of(TERMS, "if one is refused (as its call is) nothing changes;", TextEdges::refusedItems);
        e.of(TERMS, "else THE TEXT is empty then.", c -> {
            StoneRiver x = Worlds.typed("ridge;ridge;");
            c.due(2, x, "read");
            c.due(0, x, "count", 6);
            c.due(0, x, "read");
            c.due(2, x, "count", 3);
            StoneRiver y = Worlds.typed("     ");
            c.due(0, y, "read");
            c.due(0, y, "count", 6);
            c.due(0, y, "clear");
        });
    }

    private static void refusedItems(Check c) {
        String good = "cliff 1 1;boulder 1 1;scratch 1 1;ridge;find 0 0 1;ice 1 1 1;";
        for (String bad : new String[] {"cliff 64 0;", "cliff 0 6;", "boulder 64 0;", "boulder 0 6;", "scratch 64 0;",
            "scratch 0 16;", "cuts 2 0 1;", "cuts 0 5 1;", "cuts 0 1 5;", "cuts 0 1 1;", "wood 0 0 2 1;",
            "wood 0 0 1 1000;", "lichen 0 0 0;", "lichen 0 0 301;", "find 0 0 1000;", "map 0 0 1000;", "map 2 0 1;",
            "at 21 0 0;", "at 1 2 1;", "at 1 2 40;", "free 21 0 0;", "ice 0 40 40;"}) {
            for (int items = 0; items < 2; items++) {
                String text = (items == 0 ? "" : good) + bad + good;
                Supplier<StoneRiver> world = () -> {
                    StoneRiver x = Worlds.some();
                    x.clear();
                    Worlds.type(x, text);
                    return x;
                };
                Edges.refused(c, -1000 - 6 * items, world, "read");
                StoneRiver x = world.get();
                x.read();
                c.due(text.length(), x, "count", 6);
                c.due(-1, x, "fault");
            }
        }
        // the ninth ridge, the sixth sign of kind 0
        Supplier<StoneRiver> ridges = () -> Worlds.typed("ridge;".repeat(9));
        Edges.refused(c, -1008, ridges, "read");
        Supplier<StoneRiver> signs = () -> Worlds.typed("ice 1 1 1;" + "at 1 1 1;".repeat(6));
        Edges.refused(c, -1006, signs, "read");
    }

    private static void images(Edges e) {
        e.of(TERMS, "IMAGES 0, 1 keep all but them and THE TEXT; it goes on from one.", c -> {
            for (int i = 0; i < 2; i++) {
                StoneRiver x = Worlds.full();
                long asked = x.digest();
                c.due(1, x, "image", i);
                // the other one stays as it was, and is not in this one
                c.due(1, x, "from", 1 - i);
                long other = x.digest();
                c.due(1, x, "from", i);
                c.due(asked, x, "digest");
                c.due(1, x, "from", 1 - i);
                c.due(other, x, "digest");
                c.due(1, x, "from", i);
                // the text is not in it, and stays
                c.due(240, x, "clear");
                Worlds.type(x, "ridg");
                c.due(1, x, "image", i);
                x.clear();
                Worlds.type(x, "  ridge");
                c.due(1, x, "from", i);
                c.due(7, x, "count", 6);
                c.due(7, x, "fault");
            }
        });
    }

    private static void allCalls(Edges e) {
        e.of(TERMS, "Refused, changing nothing, the first of: BAD -2 a number is not as told; NO -3 as told; FULL -4.",
                c -> {
                    Edges.refused(c, -2, Worlds::full, "cliff", 64, 0);
                    Edges.refused(c, -2, Worlds::full, "boulder", 0, 6);
                    Edges.refused(c, -2, Worlds::full, "scratch", 0, 16);
                    Edges.refused(c, -2, Worlds::full, "fact", 2, FIND, 0, 5, 0);
                    Edges.refused(c, -2, Worlds::full, "sign", AT, 21, 0, 0);
                    Edges.refused(c, -2, Worlds::full, "sign", 3, 0, 0, 0);
                    Edges.refused(c, -2, Worlds::full, "type", 0, 9);
                    Edges.refused(c, -2, Worlds::full, "type", 0, 0);
                    Edges.refused(c, -2, StoneRiver::new, "from", 2);
                    Edges.refused(c, -3, StoneRiver::new, "from", 1);
                    Edges.refused(c, -4, Worlds::full, "cliff", 0, 0);
                    Edges.refused(c, -4, Worlds::full, "ridge");
                });
        e.of(TERMS, "QUARREL -5: as told.", c -> {
            StoneRiver x = Worlds.ridges(1);
            x.fact(0, FIND, 0, 5, 0);
            x.fact(0, MAP, 0, 6, 0);
            x.sign(FREE, 4, 3, 3);
            x.sign(ICE, 5, 3, 3);
            c.due(-5, x, "age", 0, 3, 0);
            c.due(-5, x, "parted");
            c.due(-5, x, "stand", -1);
            c.due(-10, x, "age", 1, 3, 0);
            c.due(-10, x, "stand", 40);
            c.due(-2, x, "sure", 0, 0);
        });
        e.of("What it is", "An object is used for at most 512 calls after it has been made;", c -> {
            StoneRiver x = new StoneRiver();
            for (int call = 1; call < 512; call++) {
                c.due(call == 1 ? 0 : (call - 1) % 100, x, "surface", 0, 9, call % 100);
            }
            c.due(11, x, "surface", 0, 9, 0);
        });
        e.of("The public face", "public static final int NONE = -1, BAD = -2, NO = -3, FULL = -4, QUARREL = -5;", c -> {
            c.same("NONE", -1, StoneRiver.NONE);
            c.same("BAD", -2, StoneRiver.BAD);
            c.same("NO", -3, StoneRiver.NO);
            c.same("FULL", -4, StoneRiver.FULL);
            c.same("QUARREL", -5, StoneRiver.QUARREL);
        });
    }

    private static void typeCalls(Edges e) {
        e.of("Promise 30", "The lowest n (1 .. 8) bytes of v, the highest of them first, come to THE TEXT: how many it "
                + "has.", c -> {
            StoneRiver x = new StoneRiver();
            c.due(8, x, "type", 0x72696467653b7269L, 8);
            c.due(12, x, "type", 0xffffffff6467653bL, 4);
            c.due(2, x, "read");
            // the lowest byte of eight, of a number below 0, too
            c.due(1, x, "type", 0xffffffffffffff3bL, 1);
            c.due(0, x, "fault");
            c.due(1, x, "clear");
            c.due(8, x, "type", -1, 8);
            c.due(0, x, "fault");
            c.due(8, x, "clear");
            c.due(3, x, "type", 0x2020203b2020L, 3);
            c.due(0, x, "fault");
            c.due(5, x, "type", 0x2020L, 2);
            for (int n = 1; n <= 8; n++) {
                StoneRiver y = new StoneRiver();
                c.due(n, y, "type", 0x2020202020202020L, n);
                c.due(-1, y, "fault");
                c.due(2 * n, y, "type", 0x3b3b3b3b3b3b3b3bL, n);
                c.due(n, y, "fault");
                StoneRiver z = new StoneRiver();
                c.due(n, z, "type", 0x203b203b203b203bL, n);
                c.due(n % 2 == 0 ? 1 : 0, z, "fault");
            }
        });
        e.of("Promise 30", "BAD;", c -> {
            Edges.range(c, -2, "type", args(0x3b3b3b3b3b3b3b3bL, 2), 1, 1, 8);
            Edges.range(c, -2, StoneRiver::new, "type", args(Long.MIN_VALUE, 2), 1, 1, 8);
        });
        e.of("Promise 30", "FULL.", c -> {
            for (int n = 1; n <= 8; n++) {
                int fits = 240 - n;
                Supplier<StoneRiver> just = () -> Worlds.typed("ridge;" + Worlds.blanks(fits - 6));
                Supplier<StoneRiver> over = () -> Worlds.typed("ridge;" + Worlds.blanks(fits - 5));
                c.due(240, just.get(), "type", 0x2020202020202020L, n);
                Edges.refused(c, -4, over, "type", 0x2020202020202020L, n);
            }
            Edges.refused(c, -4, Worlds::full, "type", ' ', 1);
        });
        e.of("Promise 31", "THE TEXT is empty: how many it had.", c -> {
            c.due(0, new StoneRiver(), "clear");
            StoneRiver x = Worlds.typed("ridg");
            c.due(4, x, "clear");
            c.due(0, x, "count", 6);
            c.due(-1, x, "fault");
            c.due(0, x, "clear");
            Worlds.type(x, "ridge;");
            c.due(1, x, "read");
            StoneRiver y = Worlds.full();
            c.due(240, y, "clear");
            c.due(1, y, "type", ' ', 1);
        });
    }

    private static void readCalls(Edges e) {
        e.of("Promise 32", "FAULT.", c -> {
            fault(c, 0, ";");
            fault(c, 239, " ".repeat(239) + ";");
            fault(c, 240, " ".repeat(235) + "ridge");
            StoneRiver x = Worlds.typed("ridg;");
            c.due(0, x, "fault");
            c.due(0, x, "fault");
            c.due(5, x, "count", 6);
        });
        e.of("Promise 32", "NONE.", c -> {
            c.due(-1, new StoneRiver(), "fault");
            fault(c, -1, "ridge;");
            // what will be refused is no fault
            fault(c, -1, "cliff 9999 9999;");
            fault(c, -1, "ridge;".repeat(40));
        });
        e.of("Promise 33", "What THE TEXT tells was found: how many ITEMS.", c -> {
            c.due(0, new StoneRiver(), "read");
            c.due(0, Worlds.typed(Worlds.blanks(240)), "read");
            c.due(8, Worlds.typed("ridge;".repeat(8)), "read");
            c.due(24, Worlds.typed("scratch1 1;".repeat(6) + "boulder1 1;".repeat(6) + "cliff1 1;".repeat(6)
                    + "ridge;".repeat(6)), "read");
        });
        e.of("Promise 33", "-10 less the FAULT;", c -> {
            for (String text : new String[] {";", "  ;", "ridge", "ridge;" + Worlds.blanks(233) + "!"}) {
                int fault = Worlds.typed(text).fault();
                Edges.refused(c, -10 - fault, () -> Worlds.typed(text), "read");
            }
            Edges.refused(c, -10, () -> Worlds.typed(";"), "read");
            Edges.refused(c, -249, () -> Worlds.typed("ridge;" + Worlds.blanks(233) + "!"), "read");
            Edges.refused(c, -250, () -> Worlds.typed("ridge;".repeat(39) + "ridge "), "read");
            // ahead of an item that would be refused
            Edges.refused(c, -23, () -> Worlds.typed("cliff 64 0;  x"), "read");
        });
        e.of("Promise 33", "-1000 less the number (0 on) of the first ITEM that is refused.", c -> {
            Edges.refused(c, -1000, () -> Worlds.typed("cliff 64 0;"), "read");
            Edges.refused(c, -1001, () -> Worlds.typed("ridge;cliff 64 0;boulder 64 0;"), "read");
            Edges.refused(c, -1008, () -> Worlds.typed("ridge;".repeat(40)), "read");
            Edges.refused(c, -1023, () -> Worlds.typed("scratch1 1;".repeat(6) + "boulder1 1;".repeat(6)
                    + "cliff1 1;".repeat(6) + "ridge;".repeat(5) + "at99 0 0;"), "read");
        });
    }

    private static void imageCalls(Edges e) {
        e.of("Promise 34", "An IMAGE is kept: 1.", c -> {
            StoneRiver x = new StoneRiver();
            c.due(1, x, "image", 0);
            x.ridge();
            c.due(1, x, "image", 1);
            x.ridge();
            c.due(1, x, "image", 1);
            x.ridge();
            c.due(1, x, "from", 0);
            c.due(0, x, "count", 3);
            c.due(1, x, "from", 1);
            c.due(2, x, "count", 3);
        });
        e.of("Promise 34", "BAD.", c -> Edges.range(c, -2, "image", args(0), 0, 0, 1));
        e.of("Promise 35", "It goes on from an IMAGE: 1.", TextEdges::goesOn);
        e.of("Promise 35", "BAD;", c -> {
            Edges.range(c, -2, "from", args(0), 0, 0, 1);
            Edges.refused(c, -2, StoneRiver::new, "from", 2);
            Edges.refused(c, -2, StoneRiver::new, "from", -1);
        });
        e.of("Promise 35", "NO: none was kept.", c -> {
            for (int i = 0; i < 2; i++) {
                int other = 1 - i;
                Supplier<StoneRiver> oneKept = () -> {
                    StoneRiver x = Worlds.ridges(2);
                    x.image(other);
                    x.ridge();
                    return x;
                };
                Edges.refused(c, -3, StoneRiver::new, "from", i);
                Edges.refused(c, -3, oneKept, "from", i);
                c.due(1, oneKept.get(), "from", other);
            }
        });
    }

    /** Whatever is found after an image is gone, and comes to it again, each time. */
    private static void goesOn(Check c) {
        StoneRiver x = Worlds.some();
        x.clear();
        x.image(1);
        long then = x.digest();
        for (int time = 0; time < 3; time++) {
            Worlds.type(x, "cliff 1 1;boulder 1 1;scratch 1 1;ridge;find 0 0 1;ice 1 1 1;");
            c.due(6, x, "read");
            x.slope(1, 1, 9 + time, 1);
            x.put(time, 6);
            x.area(3, 7);
            x.zone(20, 7);
            c.same("another digest", 0, x.digest() == then ? 1 : 0);
            c.due(1, x, "from", 1);
            c.due(then, x, "digest");
            c.due(3, x, "count", 3);
        }
        x.image(0);
        x.ridge();
        c.due(1, x, "from", 0);
        c.due(then, x, "digest");
        otherFindsInBetween(c);
        forgets(c);
    }

    /** What came in the image's stead, of the same numbers, is not mixed with it. */
    private static void otherFindsInBetween(Check c) {
        StoneRiver x = Worlds.ridges(2);
        x.image(0);
        Worlds.type(x, "cliff 1 1;boulder 2 2;scratch 3 3;find 0 0 4;at 5 6 7;cliff 8 1;boulder 9 2;find 0 0 5;");
        Worlds.type(x, "wood 1 1 6 7;at 8 9 10;free 11 12 13;cliff 3 3;boulder 4 4;scratch 1 1;scratch 2 2;");
        c.due(15, x, "read");
        x.image(1);
        long then = x.digest();
        x.from(0);
        Worlds.type(x, "cliff 51 2;boulder 52 1;scratch 53 4;map 1 1 54;ice 15 16 17;cliff 58 2;boulder 59 1;");
        Worlds.type(x, "map 1 0 60;cuts 0 0 1;ice 1 18 19;at 12 20 21;cliff 33 1;boulder 34 2;scratch 31 9;scratch 3 8;");
        c.due(15, x, "read");
        x.slope(0, 0, 99, 1);
        long other = x.digest();
        x.image(0);
        c.due(1, x, "from", 1);
        c.due(then, x, "digest");
        c.due(1, x, "from", 0);
        c.due(other, x, "digest");
    }

    /** What was asked ahead of it does not answer what is asked then. */
    private static void forgets(Check c) {
        StoneRiver x = Worlds.ridges(3);
        x.image(0);
        x.fact(0, MAP, 0, 500, 0);
        x.fact(0, FIND, 0, 400, 0);
        x.fact(0, CUTS, 1, 2, 0);
        x.sign(AT, 9, 3, 3);
        c.due(1, x, "fewest");
        c.due(1, x, "sure", 1, 2);
        c.due(1, x, "core");
        c.due(-5, x, "parted");
        c.due(9, x, "stand", 0);
        c.due(1, x, "from", 0);
        c.due(0, x, "fewest");
        c.due(0, x, "sure", 1, 2);
        c.due(0, x, "core");
        c.due(-1, x, "parted");
        c.due(0, x, "stand", 0);
        x.fact(0, FIND, 0, 600, 0);
        x.fact(0, MAP, 0, 450, 0);
        x.fact(0, FIND, 1, 7, 0);
        x.sign(AT, 12, 30, 30);
        c.due(0, x, "age", 0, 1, 0);
        c.due(999, x, "age", 0, 2, 1);
        c.due(999, x, "age", 2, 4, 1);
        c.due(0, x, "fewest");
        c.due(12, x, "stand", 0);
        otherFirstOnes(c);
    }

    /** The first fact or the first sign alone is another one, by one number. */
    private static void otherFirstOnes(Check c) {
        StoneRiver x = Worlds.ridges(2);
        x.image(0);
        int[][] facts = {{0, MAP, 0, 5, 0}, {0, FIND, 0, 5, 0}, {0, MAP, 0, 5, 0}, {0, MAP, 1, 5, 0}, {0, MAP, 0, 5, 0},
            {0, MAP, 0, 4, 0}, {0, WOOD, 0, 4, 5}, {0, WOOD, 0, 5, 5}, {0, WOOD, 0, 5, 6}};
        int[] fewest = {1, 0, 1, 0, 1, 0, 0, 1, 1};
        for (int i = 0; i < facts.length; i++) {
            x.from(0);
            x.fact(facts[i][0], facts[i][1], facts[i][2], facts[i][3], facts[i][4]);
            x.fact(1, FIND, 0, 4, 0);
            c.due(fewest[i], x, "fewest");
        }
        x.from(0);
        x.fact(0, LICHEN, 0, 100, 0);
        c.due(1, x, "fewest");
        x.from(0);
        x.fact(1, WOOD, 1, 5, 6);
        c.due(0, x, "fewest");
        int[][] signs = {{AT, 7, 3, 4}, {FREE, 7, 3, 4}, {ICE, 7, 3, 4}, {ICE, 8, 3, 4}, {ICE, 8, 2, 4}, {ICE, 8, 2, 5}};
        int[] fronts = {7, 0, 7, 8, 8, 8};
        int[] last = {0, 0, 0, 0, 0, 8};
        for (int i = 0; i < signs.length; i++) {
            x.from(0);
            x.put(1, 20);
            x.sign(signs[i][0], signs[i][1], signs[i][2], signs[i][3]);
            x.sign(FREE, i == 5 ? 20 : 0, 5, 9);
            c.due(fronts[i], x, "stand", 3);
            c.due(last[i], x, "stand", 5);
        }
    }

    private static void countCalls(Edges e) {
        e.of("Promise 36", "How many: 0 CLIFFS, 1 BOULDERS, 2 SCRATCHES, 3 RIDGES, 4 FACTS, 5 SIGNS, 6 bytes of THE "
                + "TEXT.", c -> {
            int[] some = {2, 2, 2, 3, 3, 2, 17};
            int[] full = {8, 10, 10, 8, 16, 10, 240};
            for (int what = 0; what <= 6; what++) {
                c.due(0, new StoneRiver(), "count", what);
                c.due(some[what], Worlds.some(), "count", what);
                c.due(full[what], Worlds.full(), "count", what);
            }
        });
        e.of("Promise 36", "BAD.", c -> Edges.range(c, -2, "count", args(0), 0, 0, 6));
        e.of("Promise 37", "h = 521; then h = 31 h + v for each v:", c -> {
            StoneRiver x = new StoneRiver();
            x.zone(20, 60);
            long one = x.digest();
            x.zone(20, 61);
            c.due(one, x, "digest");
            x.zone(20, 59);
            c.due(one - 1, x, "digest");
            x.zone(19, 1);
            c.due(one - 1 + 31, x, "digest");
            c.due(digest(new int[7], new int[192], new int[] {1, 3, 50, 2, 10, 30}, new int[41]), new StoneRiver(),
                    "digest");
        });
        e.of("Promise 37", "count(0) to count(6); SURFACES by STAGES; of CLIFFS, BOULDERS PLACE, SORT; of SCRATCHES "
                + "PLACE, DIRECTION; put numbers 0 to 5; of FACTS SCHOLAR, KIND, a, b, c (0 where it is not looked "
                + "at); of SIGNS KIND, x, p, q; AREAS; HEIGHTS.", TextEdges::wholeDigest);
    }

    private static void wholeDigest(Check c) {
        int[] surfaces = new int[192];
        for (int row = 0; row < 8; row++) {
            for (int column = 0; column < 8; column++) {
                surfaces[8 * row + column] = Math.max(0, 90 - 10 * row - column);
                surfaces[128 + 8 * row + column] = 20 + row + 4 * column;
            }
        }
        int[] areas = new int[20];
        areas[0] = 70;
        areas[4] = 300;
        areas[19] = 9;
        int[] heights = new int[21];
        heights[0] = 40;
        heights[1] = 20;
        int[] stones = {0, 1, 20, 2, 27, 1, 63, 2, 10, 7, 10, 8};
        int[] numbers = {2, 4, 60, 1, 8, 31};
        int[] facts = {0, CUTS, 0, 1, 0, 1, WOOD, 1, 100, 300, 0, LICHEN, 2, 9, 0};
        int[] signs = {AT, 7, 5, 9, FREE, 12, 0, 39};
        StoneRiver x = Worlds.some();
        c.due(digest(new int[] {2, 2, 2, 3, 3, 2, 17}, surfaces, stones, numbers, facts, signs, areas, heights), x,
                "digest");
        x.clear();
        x.fact(1, FIND, 1, 5, 77);
        x.fact(1, MAP, 0, 6, 78);
        x.fact(1, CUTS, 2, 0, 79);
        int[] more = {0, CUTS, 0, 1, 0, 1, WOOD, 1, 100, 300, 0, LICHEN, 2, 9, 0, 1, FIND, 1, 5, 0, 1, MAP, 0, 6, 0, 1,
            CUTS, 2, 0, 0};
        c.due(digest(new int[] {2, 2, 2, 3, 6, 2, 0}, surfaces, stones, numbers, more, signs, areas, heights), x,
                "digest");
    }

    private static long digest(int[]... rows) {
        long h = 521;
        for (int[] row : rows) {
            for (int v : row) {
                h = 31 * h + v;
            }
        }
        return h;
    }
}
