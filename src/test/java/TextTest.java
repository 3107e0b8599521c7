/** Promises 30 to 33: the text, what is wrong in it, and what it tells was found. */
public final class TextTest {
    private static final Check C = new Check();

    public static void main(String[] args) {
        type();
        typeFull();
        clear();
        faultless();
        faults();
        tooEarly();
        read();
        eachItem();
        readFaulty();
        readRefused();
        readFull();
        C.end();
    }

    private static void type() {
        StoneRiver x = new StoneRiver();
        C.refused(-2, x, "type", 1, 0);
        C.refused(-2, x, "type", 1, 9);
        C.refused(-2, x, "type", 1, -1);
        C.refused(-2, x, "type", 1, Integer.MAX_VALUE);
        C.refused(-2, x, "type", 1, Integer.MIN_VALUE);
        C.due(5, x, "type", 0x7269646765L, 5);
        C.due(6, x, "type", 0x414141413bL, 1);
        C.due(-1, x, "fault");
        // the upper bytes do not come, the highest sign bit is a sign like others
        C.due(8, x, "type", 0x7fffffffffff2020L, 2);
        C.due(16, x, "type", 0x636c696666203132L, 8);
        C.due(18, x, "type", 0x2034L, 2);
        C.due(19, x, "type", 0x3bL, 1);
        C.due(-1, x, "fault");
        C.due(20, x, "type", 0xffL, 1);
        C.due(19, x, "fault");
        C.due(28, x, "type", -1, 8);
        C.due(28, x, "count", 6);
        StoneRiver y = new StoneRiver();
        for (int n = 1; n <= 8; n++) {
            C.due(n * (n + 1) / 2, y, "type", 0x2020202020202020L, n);
        }
        C.due(-1, y, "fault");
    }

    private static void typeFull() {
        StoneRiver x = new StoneRiver();
        for (int i = 1; i <= 29; i++) {
            C.due(8 * i, x, "type", 0x2020202020202020L, 8);
        }
        C.due(239, x, "type", 0x2020202020202020L, 7);
        C.refused(-4, x, "type", 0x2020202020202020L, 2);
        C.refused(-4, x, "type", 0x2020202020202020L, 8);
        C.refused(-2, x, "type", 0x2020202020202020L, 9);
        C.due(239, x, "count", 6);
        C.due(-1, x, "fault");
        C.due(240, x, "type", 0x3b, 1);
        C.due(239, x, "fault");
        C.refused(-4, x, "type", 0x3b, 1);
        C.due(240, x, "count", 6);
        C.due(-249, x, "read");
        C.due(240, x, "clear");
        C.due(8, x, "type", 0x2020202020202020L, 8);
    }

    private static void clear() {
        StoneRiver x = new StoneRiver();
        C.due(0, x, "clear");
        Check.type(x, "nonsense");
        C.due(8, x, "clear");
        C.due(0, x, "clear");
        C.due(0, x, "count", 6);
        C.due(-1, x, "fault");
        // what stood there ahead does not come back
        C.due(1, x, "type", ';', 1);
        C.due(0, x, "fault");
        Check.retype(x, "ridgeridge 1234567");
        Check.retype(x, "ridge");
        C.due(5, x, "fault");
        Check.retype(x, "cliff 123");
        C.due(9, x, "fault");
        Check.retype(x, "xxxxxxxxx4;");
        Check.retype(x, "cliff 1 2");
        C.due(9, x, "fault");
    }

    private static void fault(String text, int due) {
        StoneRiver x = new StoneRiver();
        Check.type(x, text);
        long before = x.digest();
        C.same("fault of '" + text + "'", due, x.fault());
        C.same("its digest", before, x.digest());
        C.same("count(6) then", text.length(), x.count(6));
    }

    private static void faultless() {
        for (String text : new String[] {
            "", " ", "      ", "ridge;", " ridge ; ", "ridge;ridge;", "cliff 1 2;", "cliff1 2;", "boulder 0009 9999;",
            "scratch 1 2;ridge;cuts 1 2 3;", "wood 1 2 3 4;", "lichen9 9 9;", "find 0 0 0 ;", "map   1   2   3   ;",
            "at 1 2 3;", "free 1 2 3;ice 1 2 3;", "  cuts  0  0  0  ;  "}) {
            fault(text, -1);
        }
    }

    private static void faults() {
        fault(";", 0);
        fault("  ;", 2);
        fault("ridge;;", 6);
        fault("ridgez;", 0);
        fault("ridgea;", 0);
        fault("aridge;", 0);
        fault("xidge;", 0);
        fault("xliff 1 2;", 0);
        fault("clifx 1 2;", 0);
        fault("ridge ridg;", 6);
        fault("ridge 12345;", 6);
        fault("ridge ,;", 6);
        fault("cliff 1 2 rid;", 10);
        fault("5;", 0);
        fault("ridges;", 0);
        fault("ridg", 0);
        fault("ridg;", 0);
        fault("ridge; rid", 7);
        fault("Ridge;", 0);
        fault("riDge;", 0);
        fault("ridge 1;", 6);
        fault("ridge1;", 5);
        fault("ridge ridge;", 6);
        fault("ridge\t;", 5);
        fault("ridge\n;", 5);
        fault("cliff 1;", 7);
        fault("cliff;", 5);
        fault("cliff ;", 6);
        fault("cliff 1 2 3;", 10);
        fault("cliff 1 2cliff", 9);
        fault("cliff 12345 2;", 6);
        fault("cliff 1 00002;", 8);
        fault("cliff 1 123456789012345678901234567890;", 8);
        fault("cliff 1 2,", 9);
        fault("cliff -1 2;", 6);
        fault("cliff x 2;", 6);
        fault("cliff 1 ridge;", 8);
        fault("cliff 1 2 ridge;", 10);
        fault("wood 1 2 3;", 10);
        fault("wood 1 2 3 4 5;", 13);
        fault("cuts 1 2;", 8);
        fault("cuts 1 2 3 4;", 11);
        fault("lichen 1 2 3 4;", 13);
        fault("find 1 2 3 4;", 11);
        fault("map 1 2 3 4;", 10);
        fault("at 1 2 3 4;", 9);
        fault("free 1 2 3 4;", 11);
        fault("ice 1 2 3 4;", 10);
        fault("boulder 1 2 3;", 12);
        fault("scratch 1 2 3;", 12);
        fault("boulderr 1 2;", 0);
        fault("bouldermap 1 2;", 0);
        fault("scratches 1 2;", 0);
        fault("a 1 2 3;", 0);
        fault("e 1 2 3;", 0);
        fault("12345", 0);
        fault("ridge;12345", 6);
        fault("`;", 0);
        fault("{;", 0);
        fault("cliff 1/2;", 7);
        fault("cliff 1:2;", 7);
        fault("ridge" + (char) 160 + ";", 5);
        fault("ridge" + (char) 0 + ";", 5);
    }

    private static void tooEarly() {
        fault("ridge", 5);
        fault("ridge  ", 7);
        fault("cliff", 5);
        fault("cliff 1", 7);
        fault("cliff 1 2", 9);
        fault("cliff 1 2   ", 12);
        fault("ridge; at 1 2", 13);
        fault("wood 1 2 3 4", 12);
    }

    private static void read() {
        StoneRiver x = new StoneRiver();
        C.due(0, x, "read");
        Check.type(x, "   ");
        C.due(0, x, "read");
        C.due(0, x, "count", 6);
        Check.type(x, "ridge;ridge; cliff 0063 05;");
        C.due(3, x, "read");
        C.due(0, x, "count", 6);
        C.due(2, x, "count", 3);
        C.due(1, x, "count", 0);
        C.due(0, x, "read");
        C.due(2, x, "count", 3);
    }

    /** Each item does as its call: the same digest. */
    private static void eachItem() {
        StoneRiver x = new StoneRiver();
        StoneRiver y = new StoneRiver();
        Check.type(x, "cliff 1 2;boulder 3 4;scratch 5 6;ridge;ridge;ridge;cuts 1 0 2;wood 0 1 20 300;");
        C.due(8, x, "read");
        Check.type(x, "lichen 1 2 33;find 0 0 700;map 1 1 8;at 9 10 11;free 12 13 14;ice 15 16 17;");
        C.due(6, x, "read");
        y.cliff(1, 2);
        y.boulder(3, 4);
        y.scratch(5, 6);
        y.ridge();
        y.ridge();
        y.ridge();
        y.fact(1, 0, 0, 2, 0);
        y.fact(0, 1, 1, 20, 300);
        y.fact(1, 2, 2, 33, 0);
        y.fact(0, 3, 0, 700, 0);
        y.fact(1, 4, 1, 8, 0);
        y.sign(0, 9, 10, 11);
        y.sign(1, 12, 13, 14);
        y.sign(2, 15, 16, 17);
        C.due(y.digest(), x, "digest");
        C.due(y.stand(10), x, "stand", 10);
        C.due(y.age(1, 31, 0), x, "age", 1, 31, 0);
    }

    private static void readFaulty() {
        StoneRiver x = new StoneRiver();
        Check.type(x, "ridge; ridg;");
        C.refused(-17, x, "read");
        C.refused(-17, x, "read");
        C.due(12, x, "count", 6);
        C.due(0, x, "count", 3);
        Check.retype(x, ";");
        C.refused(-10, x, "read");
        Check.retype(x, "ridge");
        C.refused(-15, x, "read");
        // a fault comes ahead of an item that would be refused
        Check.retype(x, "cliff 64 0; x");
        C.refused(-22, x, "read");
    }

    private static void refusedItem(StoneRiver x, String text, int due) {
        Check.retype(x, text);
        C.refused(due, x, "read");
        C.due(text.length(), x, "count", 6);
        C.due(-1, x, "fault");
    }

    private static void readRefused() {
        StoneRiver x = new StoneRiver();
        x.ridge();
        x.ridge();
        String good = "ridge;cliff 1 2;boulder 3 4;scratch 5 6;find 0 2 5;at 1 2 3;";
        for (String bad : new String[] {
            "cliff 64 0;", "cliff 0 6;", "boulder 64 0;", "boulder 0 6;", "scratch 64 0;", "scratch 0 16;",
            "cuts 2 0 1;", "cuts 0 0 0;", "cuts 0 0 3;", "cuts 0 3 0;", "wood 2 0 1 2;", "wood 0 3 1 2;",
            "wood 0 0 2 1;", "wood 0 0 1 1000;", "wood 0 0 9999 9999;", "lichen 0 0 0;", "lichen 0 0 301;",
            "lichen 2 0 1;", "find 0 0 1000;", "find 0 3 1;", "map 0 0 1000;", "map 2 0 1;",
            "at 21 0 0;", "at 0 1 0;", "at 0 0 40;", "free 21 0 0;", "free 0 40 40;", "ice 21 0 0;", "ice 0 2 1;"}) {
            refusedItem(x, bad, -1000);
            refusedItem(x, bad + good, -1000);
            refusedItem(x, good + bad, -1006);
            refusedItem(x, good + bad + good + "cliff 99 99;", -1006);
        }
        Check.retype(x, good);
        C.due(6, x, "read");
        C.due(0, x, "age", 2, 1, 0);
        C.due(5, x, "age", 2, 1, 1);
        // a ridge counts for the items behind it alone
        refusedItem(x, "map 0 3 5;ridge;", -1000);
        Check.retype(x, "ridge;map 0 3 5;");
        C.due(2, x, "read");
    }

    private static void readFull() {
        StoneRiver x = new StoneRiver();
        Check.type(x, "ridge;ridge;ridge;ridge;ridge;ridge;ridge;");
        C.due(7, x, "read");
        refusedItem(x, "ridge;ridge;", -1001);
        C.due(7, x, "count", 3);
        refusedItem(x, "cliff 0 0;cliff 0 0;cliff 0 0;cliff 0 0;cliff 0 0;cliff 0 0;cliff 0 0;cliff 0 0;cliff 0 0;",
                -1008);
        refusedItem(x, "at 0 0 9;at 0 0 9;at 0 0 9;at 0 0 9;at 0 0 9;ice 0 0 9;at 0 0 9;", -1006);
        StringBuilder forty = new StringBuilder();
        for (int i = 0; i < 40; i++) {
            forty.append("ridge;");
        }
        refusedItem(x, forty.toString(), -1001);
        Check.retype(x, "ridge;");
        C.due(1, x, "read");
        refusedItem(x, "ridge;", -1000);
        C.due(8, x, "count", 3);
        Check.retype(x, "boulder1 1;boulder1 1;boulder1 1;boulder1 1;boulder1 1;"
                + "boulder1 1;boulder1 1;boulder1 1;boulder1 1;boulder1 1;"
                + "scratch1 1;scratch1 1;scratch1 1;scratch1 1;scratch1 1;"
                + "scratch1 1;scratch1 1;scratch1 1;scratch1 1;scratch1 1;");
        C.due(20, x, "read");
        refusedItem(x, "boulder1 1;", -1000);
        refusedItem(x, "scratch1 1;", -1000);
    }
}
