/** Each promise of the document by hand: ordinary inputs, the edges that it names, wrong inputs. */
public final class PromisesTest extends Trial {
    public static void main(String[] args) {
        newObject();
        feedAndBack();
        syntax();
        room();
        twiceAndWrong();
        faultsChangeNothing();
        drawings();
        rays();
        halves();
        flawsAndEnds();
        shines();
        darkAndUneven();
        grades();
        prices();
        fitting();
        dearest();
        two();
        tests();
        voids();
        nextTest();
        counts();
        fullHouse();
        tapeEnds();
        farStones();
        end("all promises are kept");
    }

    private static void newObject() {
        begin("promise 1");
        CutStones x = new CutStones();
        for (int i = 0; i <= 6; i++) {
            due("count(" + i + ")", x.count(i), 0);
        }
        due("place()", x.place(), NONE);
        due("weight", x.weight(false, 0), NONE);
        due("cell", x.cell(true, 0, 0, 0), NONE);
        due("even", x.even(0), NONE);
        due("step", x.step(0), NONE);
        due("spark", x.spark(0), NONE);
        due("shine", x.shine(0, 0, 0, 0, 0, 0, 1, 0), NONE);
        due("seen", x.seen(0), NONE);
        due("column", x.column(0), NONE);
        due("grade", x.grade(), NONE);
        due("price", x.price(), NONE);
        due("fits", x.fits(0, 0, 0, 0), NONE);
        due("places", x.places(0, 0), NONE);
        due("dearest", x.dearest(0, 0, 0), NONE);
        due("two", x.two(0, 0, 0), NONE);
        due("laid", x.laid(0), NONE);
        due("test", x.test(0, 0, 0), NONE);
        due("annul", x.annul(0), NONE);
        due("bright", x.bright(0, 0, 0), NONE);
        due("barred", x.barred(0, 0), NONE);
        due("left(0)", x.left(0), 0);
        due("left(1)", x.left(1), NONE);
        due("next(0)", x.next(0), -2);
        due("next(1)", x.next(1), NONE);
    }

    private static void feedAndBack() {
        begin("promise 2, 3");
        CutStones x = new CutStones();
        due("back(1)", x.back(1), NONE);
        due("back(0)", x.back(0), 0);
        for (int i = 1; i <= 100; i++) {
            due("feed", x.feed(0, 0, 0, 0, 0), 20 * i);
        }
        due("the 101st feed", x.feed(1, 2, 3, 4, 5), NONE);
        due("count(6)", x.count(6), 2000);
        due("back(1)", x.back(1), 1999);
        due("feed", x.feed(1, 2, 3, 4, 5), NONE);
        due("back(19)", x.back(19), 1980);
        due("feed", x.feed(1, 2, 3, 4, 5), 2000);
        due("back(-1)", x.back(-1), NONE);
        due("back(LOW)", x.back(LOW), NONE);
        due("back(2001)", x.back(2001), NONE);
        due("back(HIGH)", x.back(HIGH), NONE);
        due("back(2000)", x.back(2000), 0);
        // the highest byte of a comes first: "cut a '#;", then what goes off again
        due("feed", x.feed(0x63757420, 0x61202723, 0x3bffffff, -1, LOW), 20);
        due("back", x.back(11), 9);
        due("read", x.read(), 0);
        due("count(1)", x.count(1), 1);
        due("count(6)", x.count(6), 0);
    }

    private static void syntax() {
        begin("promise 4, 5 SYNTAX");
        fault("", 0);
        fault(" \n\t\r", 0);
        fault(" \n@\u000b", 1);
        fault("@\0", 1);
        fault("@\u00e9", 1);
        fault("@A", 1);
        fault("@a", 1);
        fault("@;", 1);
        fault("stuff@", 1);
        fault("stuff  @", 1);
        fault("stuff @cut", 1);
        fault("stuff @eats: 1 1;", 1);
        fault("stuff @wide: 1 1;", 1);
        fault("stuff abcdefgh: 1 1;", 0);
        fault("stuff @abcdefghi: 1 1;", 1);
        fault("stuff stuffs:1 1;cut cuts'#;", 0);
        fault("stuff a @1", 1);
        fault("stuff a: @;", 1);
        fault("stuff a: 1 @;", 1);
        fault("stuff a: 1 1 @1;", 1);
        fault("stuff a: 1 1, @;", 1);
        fault("stuff a: 1 1 eats @;", 1);
        fault("stuff a: 1 1 eats 1 @eats 1;", 1);
        fault("stuff a: 1 1 eats 1@, 1 1;", 1);
        fault("stuff a: 1 1 eats 1@", 1);
        fault("stuff a: 0001 1000 eats 0000;", 0);
        fault("stuff a: @00001 1;", 1);
        fault("stuff a: @12345;", 1);
        fault("cut a @;", 1);
        fault("cut a '#@", 1);
        fault("cut a @';", 1);
        fault("cut a @'5;", 1);
        fault("cut a '#@5;", 1);
        fault("cut a '#.1234x#.123;", 0);
        fault("cut a @'#.1234x#.1234;", 1);
        fault("cut a'#'#;rough b'#'#;", 0);
        fault("cut a '# @, '#;", 1);
        fault("cut a '#; @;", 1);
        fault("grade a @bright < 1;", 1);
        fault("grade a if @;", 1);
        fault("grade a if bright@;", 1);
        fault("grade a if bright < 1@", 1);
        fault("grade a if bright < 1 @< 2;", 1);
        fault("grade a if (bright @< 1);", 1);
        fault("grade a if not not not 1 < 1 or 2 <= 3 and not 4 != 5;", 0);
        fault("grade a if 1 @not < 2;", 1);
        fault("grade a if 1 < @not 2;", 1);
        fault("grade a if 1 < 2 and@;", 1);
        fault("grade a if 1 < 2 or @and 1 < 1;", 1);
        fault("grade a if 1 @= 2;", 1);
        fault("grade a if 1 == 2;", 0);
        fault("grade a if 1 ==@= 2;", 1);
        fault("grade a if 1 <@< 2;", 1);
        fault("grade a if 1 <=@= 2;", 1);
        fault("grade a if 1 @> 2;", 1);
        fault("grade a if 1 @! 2;", 1);
        fault("grade a if 1 @!", 1);
        fault("price a @if 1 < 2;", 1);
        fault("price a @+ 1;", 1);
        fault("price a @b;", 1);
        fault("price a 1 + @;", 1);
        fault("price a 1 +@- 2;", 1);
        fault("price a 1 @2;", 1);
        fault("price a (1@;", 1);
        fault("price a (1)@);", 1);
        fault("price a (@);", 1);
        fault("price a ((1 + 2) * (bright / weight)) - leak - dark * uneven + flaws / wide + colour;", 0);
        fault("price a 1 if 1 < 2 @if 1 < 2;", 1);
        fault("price @5;", 1);
    }

    private static void room() {
        begin("promise 4, 5 ROOM");
        String four = "stuff a: 1 1; stuff b: 1 1; stuff c: 1 1; stuff d: 1 1; ";
        fault(four, 0);
        fault(four + "@stuff e: 1 1;", 2);
        fault(four + "@stuff", 2);
        String six = "cut a '#; cut b '#; cut c '#; cut d '#; cut e '#; cut f '#; ";
        fault(six + "rough g '#;", 0);
        fault(six + "@cut g '#;", 2);
        String rough = "rough g '#; rough h '#; rough i '#; rough j '#; ";
        fault(six + rough, 0);
        fault(six + rough + "@rough k '#;", 2);
        StringBuilder rules = new StringBuilder();
        for (int i = 0; i < 8; i++) {
            rules.append("grade g").append((char) ('a' + i)).append(" if 1 < 2; price p").append((char) ('a' + i)).append(" 1; ");
        }
        fault(rules.toString(), 0);
        fault(rules + "@grade x if 1 < 2;", 2);
        fault(rules + "@price x 1;", 2);
        fault("stuff a: 1 1, 1 1, 1 1, 1 1;", 0);
        fault("stuff a: 1 1, 1 1, 1 1, 1 1, @1 1;", 2);
        fault("stuff a: 1 1, 1 1, 1 1, 1 1, @;", 1);
        fault("rough a" + times(12, " '#") + ";", 0);
        fault("rough a" + times(12, " '#") + " @'#;", 2);
        fault("price a ((((((1))))));", 0);
        fault("price a ((((((@(1)))))));", 2);
        fault("price a ((((((1)))))) + (((((1))))) * ((((((2))))));", 0);
        fault("grade a if ((((((1)))))) < ((((((@(2)))))));", 2);
        // grade a if, nots, 1 < 2 ; make 7 tokens beside the nots
        fault("grade a if" + times(493, " not") + " 1<2;", 0);
        fault("grade a if" + times(494, " not") + " 1<2@;", 2);
        String just = "price a 1" + times(248, "+1");
        fault(just + ";", 0);
        fault(just + ";@cut b '#;", 2);
        fault(just + ";@,", 1);
        fault(just + ";@=", 1);
        fault(just + "+@1;", 2);
        fault(just + "+@(1);", 2);
        fault(just + "+@;", 1);
        fault(just + "+@abcdefghi", 1);
        fault(just + "+@", 1);
        // SYNTAX that comes ahead, ROOM that comes ahead
        fault("@, " + four + "stuff e: 1 1;", 1);
        fault(four + "@stuff e: 1 1; ,", 2);
    }

    private static void twiceAndWrong() {
        begin("promise 4, 5 TWICE and WRONG");
        fault("stuff a: 1 1; cut @a '#;", 3);
        fault("cut a '#; rough b '#; grade c if 1 < 2; price @b 1;", 3);
        fault("price a 1; grade @a if 1 < 2;", 3);
        fault("cut a '#; cut ab '#; cut b '#; rough aa '#;", 0);
        fault("cut b '#; cut bb '#; cut ba '#; cut ab '#; cut z '#; cut zz '#; rough az '#; rough zzzzzzzz '#; rough zzzzzzza '#; rough azzzzzzz '#;", 0);
        fault("cut zzzzzzzz '#; cut zzzzzzz '#; cut @zzzzzzzz '#;", 3);
        fault("cut a '#; cut a '#; @;", 1);
        fault("stuff a: 1000 1000 eats 1000;", 0);
        fault("stuff a: @1001 1;", 5);
        fault("stuff a: 1 @1001;", 5);
        fault("stuff a: 1 1, 1 1, 1 @9999, 1001 1;", 5);
        fault("stuff a: 1 1 eats @1001;", 5);
        fault("price a 9999;", 0);
        fault("cut a '## '## @'#;", 5);
        fault("cut a '## @'### '#;", 5);
        fault("rough a '.. '.. '.#;", 0);
        fault("rough a '.. '.. @'..;", 5);
        fault("cut a @'.;", 5);
        fault("cut a '. @'..;", 5);
        fault("cut a '1 '. ;", 0);
        // the first by its place, whatever its number
        fault("cut a @'.; cut a '#;", 5);
        fault("cut a '#; cut @a '.;", 3);
        // only where there is neither SYNTAX nor ROOM
        fault("cut a '.; cut a '#@", 1);
        fault("cut a '.; stuff b: 1001 1, 1 1, 1 1, 1 1, @1 1;", 2);
    }

    private static void faultsChangeNothing() {
        begin("promise 4, 5");
        CutStones x = told("stuff a: 500 0; cut b '#; rough c '##; price d 7;");
        x.ray(0, 0, 0, 0, 0, 1000);
        x.shine(0, 0, 0, 1000, 0, 0, 1, 0);
        x.dearest(1, 0, 0);
        x.test(0, 0, 0);
        feedText(x, "stuff q: 1 1; cut r '1 '1; cut s '.;");
        due("read", x.read(), 5);
        due("place", x.place(), 33);
        due("place again", x.place(), 33);
        due("count(1)", x.count(1), 1);
        due("count(5)", x.count(5), 1);
        due("weight", x.weight(false, 0), 2);
        due("spark(2)", x.spark(2), 333);
        due("seen(0)", x.seen(0), 166);
        due("price", x.price(), 7);
        due("laid(1)", x.laid(1), 0);
        due("bright", x.bright(0, 0, 0), 166);
        feedText(x, "cut b '1; stuff a: 0 0; rough c '1;");
        due("read", x.read(), 0);
        due("place", x.place(), NONE);
        due("spark(2)", x.spark(2), NONE);
        due("step(0)", x.step(0), NONE);
        due("seen(0)", x.seen(0), NONE);
        due("column(0)", x.column(0), NONE);
        due("grade", x.grade(), NONE);
        due("price", x.price(), NONE);
        due("laid(1)", x.laid(1), NONE);
        due("count(5)", x.count(5), 0);
        due("count(4)", x.count(4), 0);
        due("weight", x.weight(false, 0), 1);
        due("bright", x.bright(0, 0, 0), 0);
        due("read of nothing", x.read(), 0);
        due("count(1)", x.count(1), 0);
    }

    private static void drawings() {
        begin("promise 6, 7, 8");
        CutStones x = told("cut a '.12 '34# 'x..; cut b '2#1 '.x.; cut c '.1.; cut d '33; cut e '43; cut f '#x; rough h '12;");
        due("weight a", x.weight(false, 0), 8);
        due("weight b", x.weight(false, 1), 6);
        due("weight rough", x.weight(true, 0), 2);
        due("weight none", x.weight(false, 6), NONE);
        due("weight none", x.weight(true, 1), NONE);
        due("weight none", x.weight(false, -1), NONE);
        due("weight none", x.weight(true, LOW), NONE);
        int[] cells = {0, 1, 2, 3, 4, 5, 6, 0, 0};
        for (int i = 0; i < 9; i++) {
            due("cell " + i, x.cell(false, 0, i % 3, i / 3), cells[i]);
        }
        due("cell", x.cell(true, 0, 1, 0), 2);
        due("no cell", x.cell(false, 0, 3, 0), NONE);
        due("no cell", x.cell(false, 0, 0, 3), NONE);
        due("no cell", x.cell(false, 0, -1, 0), NONE);
        due("no cell", x.cell(false, 0, 0, -1), NONE);
        due("no cell", x.cell(true, 0, 0, 1), NONE);
        due("no cell", x.cell(true, 1, 0, 0), NONE);
        due("no cell", x.cell(false, HIGH, HIGH, HIGH), NONE);
        int[] even = {0, 1, 0, 0, 1, 0};
        for (int i = 0; i < 6; i++) {
            due("even " + i, x.even(i), even[i]);
        }
        due("even none", x.even(6), NONE);
        due("even none", x.even(-1), NONE);
        due("even of halves", told("cut a '3#4 '1.2;").even(0), 1);
        due("even of flaws", told("cut a 'x#x;").even(0), 1);
    }

    private static void rays() {
        begin("promise 9, 10, 11");
        CutStones x = told("stuff g: 500 0, 1000 0; cut a '#; cut b '.#. '#.# '...; cut c '#3 '#4;");
        due("ray", x.ray(0, 0, 0, 0, 0, 1000), 300);
        // in 500; down 250, 62, 16, 4, 1, up 125, 31, 8, 2; one is left
        sparks(x, 166, 0, 333, 0, 500, 0, 1);
        due("step(0)", x.step(0), 0);
        due("step(299)", x.step(299), 0);
        due("step(300)", x.step(300), NONE);
        due("step(-1)", x.step(-1), NONE);
        due("no cut", x.ray(3, 0, 0, 0, 0, 1), NONE);
        due("no cut", x.ray(-1, 0, 0, 0, 0, 1), NONE);
        due("no stuff", x.ray(0, 1, 0, 0, 0, 1), NONE);
        due("no stuff", x.ray(0, -1, 0, 0, 0, 1), NONE);
        due("no colour", x.ray(0, 0, 4, 0, 0, 1), NONE);
        due("no colour", x.ray(0, 0, -1, 0, 0, 1), NONE);
        due("no lamp below", x.ray(0, 0, 0, 2, 0, 1), NONE);
        due("no lamp", x.ray(0, 0, 0, 4, 0, 1), NONE);
        due("no lamp", x.ray(0, 0, 0, -1, 0, 1), NONE);
        due("no column", x.ray(0, 0, 0, 0, 1, 1), NONE);
        due("no column", x.ray(0, 0, 0, 0, -1, 1), NONE);
        due("no row", x.ray(0, 0, 0, 1, 1, 1), NONE);
        due("no row", x.ray(0, 0, 0, 3, -1, 1), NONE);
        due("no light", x.ray(0, 0, 0, 0, 0, 0), NONE);
        due("no light", x.ray(0, 0, 0, 0, 0, -1), NONE);
        due("too much light", x.ray(0, 0, 0, 0, 0, 100001), NONE);
        sparks(x, 166, 0, 333, 0, 500, 0, 1);
        due("ray of colour 3 as the last told", x.ray(0, 0, 3, 0, 0, 100000), 1);
        sparks(x, 0, 0, 100000, 0, 0, 0, 0);
        due("ray of 1: nothing comes in", x.ray(0, 0, 0, 0, 0, 1), 0);
        sparks(x, 0, 0, 0, 0, 1, 0, 0);
        due("step(0)", x.step(0), NONE);
        due("from the right", x.ray(1, 0, 1, 1, 1, 10), 1);
        due("step(0)", x.step(0), 14);
        sparks(x, 0, 0, 0, 10, 0, 0, 0);
        due("from the left", x.ray(1, 0, 1, 3, 1, 10), 1);
        due("step(0)", x.step(0), 12);
        sparks(x, 0, 10, 0, 0, 0, 0, 0);
        due("through nothing", x.ray(1, 0, 1, 3, 0, 10), 1);
        due("step(0)", x.step(0), 1);
        due("meets none", x.ray(1, 0, 1, 3, 2, 10), 0);
        sparks(x, 0, 0, 0, 0, 10, 0, 0);
        due("no SIDE beside: out", x.ray(2, 0, 1, 3, 0, 10), 1);
        sparks(x, 0, 10, 0, 0, 0, 0, 0);
        due("a SIDE beside: on", x.ray(2, 0, 1, 3, 1, 10), 2);
        due("step(1)", x.step(1), 13);
        sparks(x, 0, 0, 10, 0, 0, 0, 0);
    }

    private static void halves() {
        begin("promise 9, 11 halves");
        CutStones x = told("stuff g: 1000 300; cut a '1; cut b '2; cut c '3; cut d '4;");
        x.ray(0, 0, 0, 0, 0, 1000);
        sparks(x, 0, 0, 300, 700, 0, 0, 0);
        x.ray(0, 0, 0, 3, 0, 1000);
        sparks(x, 700, 300, 0, 0, 0, 0, 0);
        due("a half seen from its slant", x.ray(0, 0, 0, 1, 0, 1000), 0);
        sparks(x, 0, 0, 0, 0, 1000, 0, 0);
        x.ray(1, 0, 0, 0, 0, 1000);
        sparks(x, 0, 700, 300, 0, 0, 0, 0);
        x.ray(1, 0, 0, 1, 0, 1000);
        sparks(x, 700, 0, 0, 300, 0, 0, 0);
        due("slant", x.ray(1, 0, 0, 3, 0, 1000), 0);
        x.ray(2, 0, 0, 1, 0, 1000);
        sparks(x, 0, 0, 700, 300, 0, 0, 0);
        due("slant", x.ray(2, 0, 0, 0, 0, 1000), 0);
        due("slant", x.ray(2, 0, 0, 3, 0, 1000), 0);
        x.ray(3, 0, 0, 3, 0, 1000);
        sparks(x, 0, 300, 700, 0, 0, 0, 0);
        due("slant", x.ray(3, 0, 0, 0, 0, 1000), 0);
        due("slant", x.ray(3, 0, 0, 1, 0, 1000), 0);
        // thrown back within a half: in 500, left 250, thrown back 250, turned up 125 out, 125 thrown back down ..
        CutStones y = told("stuff g: 500 0; cut a '1;");
        due("steps", y.ray(0, 0, 0, 0, 0, 1000), 300);
        sparks(y, 166, 0, 0, 333, 500, 0, 1);
        // OUT up through a slant counts to the column: 600 up in cell 12 (half 2 of row 1), then 3 of row 0
        CutStones z = told("stuff g: 1000 400; cut a '.3 '#1;");
        due("steps", z.ray(0, 0, 0, 3, 1, 1000), 3);
        due("step(0)", z.step(0), 12);
        due("step(1)", z.step(1), 13);
        due("step(2)", z.step(2), 1);
        sparks(z, 240, 760, 0, 0, 0, 0, 0);
        z.shine(0, 0, 0, 0, 1000, 0, 1, 0);
        due("column(0)", z.column(0), 0);
        due("column(1)", z.column(1), 240);
    }

    private static void flawsAndEnds() {
        begin("promise 9, 11 flaws");
        CutStones x = told("stuff g: 1000 0; stuff h: 1000 0 eats 333; stuff i: 0 0; stuff j: 1000 0 eats 1000; cut a 'x; cut b '#x#;");
        due("200 without", x.ray(0, 0, 0, 0, 0, 1000), 1);
        sparks(x, 0, 0, 800, 0, 0, 200, 0);
        due("333 of 10", x.ray(0, 1, 0, 0, 0, 10), 1);
        sparks(x, 0, 0, 7, 0, 0, 3, 0);
        due("in the row", x.ray(1, 1, 0, 1, 0, 100), 3);
        sparks(x, 0, 0, 0, 67, 0, 33, 0);
        due("nothing goes through", x.ray(1, 2, 0, 0, 1, 100), 0);
        sparks(x, 0, 0, 0, 0, 100, 0, 0);
        due("all is eaten", x.ray(1, 3, 0, 3, 0, 100), 2);
        sparks(x, 0, 0, 0, 0, 0, 100, 0);
        // 1 of 1000 goes through: 100 come in and go to and fro in 12 cells, 300 STEPS long
        CutStones y = told("stuff g: 1 0; cut a '############;");
        due("steps", y.ray(0, 0, 0, 3, 0, 100000), 300);
        due("step(11)", y.step(11), 11);
        due("step(12)", y.step(12), 11);
        due("step(23)", y.step(23), 0);
        due("step(24)", y.step(24), 0);
        due("step(299)", y.step(299), 11);
        sparks(y, 0, 0, 0, 0, 99900, 0, 100);
    }

    private static void shines() {
        begin("promise 12, 13, 14");
        CutStones x = told("stuff g: 500 0; cut a '#.#; cut b 'x;");
        due("shine", x.shine(0, 0, 0, 1000, 0, 0, 2, 2), 166);
        sights(x, 166, 333, 1, 166, 0, 1500, 0, 1, 2000);
        due("column(0)", x.column(0), 166);
        due("column(1)", x.column(1), 0);
        due("column(2)", x.column(2), 0);
        due("column(3)", x.column(3), NONE);
        due("column(-1)", x.column(-1), NONE);
        due("no cut", x.shine(2, 0, 0, 1, 1, 1, 1, 0), NONE);
        due("no stuff", x.shine(0, 1, 0, 1, 1, 1, 1, 0), NONE);
        due("no colour", x.shine(0, 0, 4, 1, 1, 1, 1, 0), NONE);
        due("no colour", x.shine(0, 0, -1, 1, 1, 1, 1, 0), NONE);
        due("above", x.shine(0, 0, 0, -1, 1, 1, 1, 0), NONE);
        due("above", x.shine(0, 0, 0, 100001, 1, 1, 1, 0), NONE);
        due("left", x.shine(0, 0, 0, 1, -1, 1, 1, 0), NONE);
        due("left", x.shine(0, 0, 0, 1, 100001, 1, 1, 0), NONE);
        due("right", x.shine(0, 0, 0, 1, 1, -1, 1, 0), NONE);
        due("right", x.shine(0, 0, 0, 1, 1, 100001, 1, 0), NONE);
        sights(x, 166, 333, 1, 166, 0, 1500, 0, 1, 2000);
        due("no HEAD", x.shine(0, 0, 0, 1000, 0, 0, HIGH, LOW), 332);
        due("dark: none, a column of nothing does not count", x.seen(2), 0);
        due("a HEAD over all", x.shine(0, 0, 0, 1000, 0, 0, LOW, HIGH), 0);
        sights(x, 0, 0, 0, 0, 0, 0, 0, 0, 0);
        due("a HEAD over two", x.shine(0, 0, 0, 1000, 0, 0, -3, 1), 166);
        due("column(0)", x.column(0), 0);
        due("column(2)", x.column(2), 166);
        due("beside", x.shine(0, 0, 0, 0, 1000, 100000, 0, 2), 0);
        due("given", x.seen(8), 101000);
        due("leak", x.seen(1), 499 + 49999);
        due("glare", x.seen(5), 50500);
        due("no light", x.shine(0, 0, 0, 0, 0, 0, 1, 0), 0);
        sights(x, 0, 0, 0, 0, 0, 0, 0, 0, 0);
        CutStones y = told("stuff g: 1000 0 eats 500; cut a 'xx;");
        due("shine", y.shine(0, 0, 0, 100, 100, 0, 1, 0), 0);
        // two STEPS from above, two from the left: 50, 50, 50 + 25 are eaten
        sights(y, 0, 125, 0, 0, 4, 0, 175, 0, 300);
    }

    private static void darkAndUneven() {
        begin("promise 13 DARK, UNEVEN");
        // from the right both rows are turned up, in columns 2 and 1
        CutStones x = told("stuff g: 1000 0; cut a '#.2 '#2#;");
        due("shine", x.shine(0, 0, 0, 1000, 0, 1000, 1, 0), 2000);
        due("column(0)", x.column(0), 0);
        due("column(1)", x.column(1), 1000);
        due("column(2)", x.column(2), 1000);
        due("dark", x.seen(2), 1);
        due("uneven", x.seen(3), 1000);
        due("flaws", x.seen(4), 0);
        CutStones y = told("stuff g: 500 0 eats 638; cut a '#x;");
        y.shine(0, 0, 0, 1920, 0, 0, 1, 0);
        due("column(0)", y.column(0), 320);
        due("column(1)", y.column(1), 32);
        due("ten times is not below", y.seen(2), 0);
        due("uneven", y.seen(3), 288);
        y.shine(0, 0, 0, 2530, 0, 0, 1, 0);
        due("column(0)", y.column(0), 421);
        due("column(1)", y.column(1), 42);
        due("ten times is below", y.seen(2), 1);
    }

    private static void grades() {
        begin("promise 15");
        CutStones x = told("stuff s: 500 0; cut a '#.#; grade g if bright == 333; grade h if leak < 666 or dark == 1 and not uneven != 166;"
                + "grade i if weight == 4 and flaws == 0 and wide == 3 and colour == 2; grade j if leak <= 666;");
        due("none is remembered", x.grade(), NONE);
        x.shine(0, 0, 0, 1000, 0, 0, 1, 0);
        due("j", x.grade(), 3);
        x.shine(0, 0, 2, 1000, 0, 0, 1, 0);
        due("i", x.grade(), 2);
        x.shine(0, 0, 2, 1000, 0, 0, 0, 0);
        due("h", x.grade(), 1);
        x.shine(0, 0, 0, 2000, 0, 0, 1, 0);
        due("none holds", x.grade(), -2);
        CutStones y = told("stuff s: 500 0; cut a '#; grade b if 1 / 0 == 0 or 1 / (wide - 1) != 7 or not not 0 == 1 / 0;"
                + "grade c if not 1 / 0 == 0 and not 3 < 2; grade d if 1 < 2;");
        y.shine(0, 0, 0, 1000, 0, 0, 1, 0);
        due("a LIT with a division by 0 does not hold, its not does", y.grade(), 1);
        due("a division by 0 in one LIT leaves the others", grade("1 / 0 < 1 or 1 < 2"), 0);
        due("and ahead of or", grade("1 < 2 or 1 < 2 and 2 < 1"), 0);
        due("and ahead of or", grade("2 < 1 and 1 < 2 or 2 < 1"), -2);
        due("not of a LIT alone", grade("not 2 < 1 and 2 < 1"), -2);
        due("* ahead of +", grade("2 + 3 * 4 == 14 and (2 + 3) * 4 == 20"), 0);
        due("from the left", grade("10 - 3 - 2 == 5 and 100 / 5 / 2 == 10 and 7 / 2 * 2 == 6 and 1 - 2 + 3 == 2"), 0);
        due("towards 0", grade("(0 - 7) / 2 == 0 - 3 and 0 - 7 / 2 == 0 - 3"), 0);
        // 2048 * 1024 * 1024 is the least one, the next one below it the greatest
        due("32 bits that wrap", grade("2048 * 1024 * 1024 < 0 and 0 < 2048 * 1024 * 1024 - 1 and 4096 * 1024 * 1024 == 0"), 0);
        due("the least by less one", grade("(0 - 2048 * 1024 * 1024) / (0 - 1) == 0 - 2048 * 1024 * 1024"), 0);
        due("<=", grade("2 <= 2 and 1 <= 2 and not 3 <= 2 and not 2 < 2"), 0);
        due("no GRADE", told("stuff s: 1 1; cut a '#;").grade(), NONE);
    }

    private static int grade(String cond) {
        CutStones x = told("stuff s: 500 0; cut a '#; grade b if " + cond + ";");
        x.shine(0, 0, 0, 1000, 0, 0, 1, 0);
        return x.grade();
    }

    private static void prices() {
        begin("promise 16");
        due("plain", price("price b 7;"), 7);
        due("no PRICE", price(""), 0);
        due("none holds", price("price b 7 if 2 < 1;"), 0);
        due("the first that holds", price("price b 7 if 2 < 1; price c 8 if 1 < 2; price d 9;"), 8);
        due("without a COND", price("price b 7; price c 8 if 1 < 2;"), 7);
        due("held to 0", price("price b 1 - 2; price c 3;"), 0);
        due("held to 1000000", price("price b 1000 * 1000 + 1;"), 1000000);
        due("just 1000000", price("price b 1000 * 1000;"), 1000000);
        due("just below", price("price b 1000 * 1000 - 1;"), 999999);
        due("a division by 0", price("price b 5 + 1 / 0; price c 3;"), 0);
        due("a division by 0 within", price("price b 5 + (1 / (1 - 1)) * 0;"), 0);
        due("VARS", price("price b bright + leak * 10 + weight + wide;"), 166 + 3330 + 2 + 1);
        CutStones x = told("stuff s: 500 0; cut a '#; price b 1;");
        due("none is remembered", x.price(), NONE);
    }

    private static int price(String tells) {
        CutStones x = told("stuff s: 500 0; cut a '#; " + tells);
        x.shine(0, 0, 0, 1000, 0, 0, 1, 0);
        return x.price();
    }

    private static void fitting() {
        begin("promise 17, 18");
        CutStones x = told("cut a '#; cut b '1; cut c 'x; cut d '.2; cut e '#. '.#; rough r '.#x '123 '4##;");
        String[] fitting = {
            "010000011", // full: on full
            "010100011", // 1: on full or 1
            "010000011", // with a FLAW: on full without one
            "100100110", // .2: its stone lies at x + 1, on full or 2
            "000000000",
        };
        for (int cut = 0; cut < 5; cut++) {
            int sum = 0;
            for (int i = 0; i < 9; i++) {
                int want = fitting[cut].charAt(i) - '0';
                sum += want;
                due("fits " + cut + " at " + i, x.fits(cut, 0, i % 3, i / 3), want);
            }
            due("places of " + cut, x.places(cut, 0), sum);
        }
        due("beyond", x.fits(0, 0, 11, 11), 0);
        due("beyond", x.fits(0, 0, 3, 0), 0);
        due("no x", x.fits(0, 0, 12, 0), NONE);
        due("no x", x.fits(0, 0, -1, 0), NONE);
        due("no y", x.fits(0, 0, 0, 12), NONE);
        due("no y", x.fits(0, 0, 0, -1), NONE);
        due("no cut", x.fits(5, 0, 0, 0), NONE);
        due("no cut", x.fits(-1, 0, 0, 0), NONE);
        due("no rough", x.fits(0, 1, 0, 0), NONE);
        due("no rough", x.fits(0, -1, 0, 0), NONE);
        due("no cut", x.places(5, 0), NONE);
        due("no rough", x.places(0, 1), NONE);
        CutStones y = told("cut a '#. '..; rough r '" + times(12, "#") + times(11, " '" + times(12, "#")) + "; rough s '##;");
        due("nothing may lie beyond", y.fits(0, 0, 11, 11), 1);
        due("all places", y.places(0, 0), 144);
        due("two places", y.places(0, 1), 2);
    }

    private static void dearest() {
        begin("promise 19, 21");
        CutStones x = told("stuff s: 500 0, 0 0; cut a '#; cut b '##; cut c '##; cut d '1; cut e '3; rough r '.#. '### '1x2;"
                + "rough t '1; price p weight * 10;");
        due("two cells", x.dearest(7, 0, 0), 40);
        lying(x, -1, 1, 0, 1, -1, -1, -1);
        due("the later of the alike alone", x.dearest(4, 0, 0), 40);
        lying(x, -1, 2, 0, 1, -1, -1, -1);
        due("least y, then x", x.dearest(1, 0, 0), 20);
        lying(x, -1, 0, 1, 0, -1, -1, -1);
        due("no such cut", x.dearest(32, 0, 0), NONE);
        due("no such cut", x.dearest(-1, 0, 0), NONE);
        due("no such cut", x.dearest(LOW, 0, 0), NONE);
        due("no rough", x.dearest(1, 2, 0), NONE);
        due("no rough", x.dearest(1, -1, 0), NONE);
        due("no stuff", x.dearest(1, 0, 1), NONE);
        due("no stuff", x.dearest(1, 0, -1), NONE);
        lying(x, -1, 0, 1, 0, -1, -1, -1);
        due("a half", x.dearest(31, 1, 0), 10);
        lying(x, -1, 3, 0, 0, -1, -1, -1);
        due("none fits", x.dearest(23, 1, 0), -2);
        lying(x, -1, -1, -1, -1, -1, -1, -1);
        x.dearest(1, 0, 0);
        due("none told", x.dearest(0, 0, 0), -2);
        lying(x, -1, -1, -1, -1, -1, -1, -1);
        // by a SHINE of 1000 above alone, COLOUR 0, no HEAD, and it is not remembered
        CutStones y = told("stuff s: 500 0, 0 0; cut a '#; rough r '#; price p bright + leak + colour * 1000;");
        due("dearest", y.dearest(1, 0, 0), 499);
        due("seen", y.seen(0), NONE);
        y.shine(0, 0, 1, 5, 6, 7, 0, 0);
        due("dearest", y.dearest(1, 0, 0), 499);
        due("seen(8)", y.seen(8), 13);
        due("PRICE 0 is one", told("stuff s: 1 1; cut a '#; rough r '#;").dearest(1, 0, 0), 0);
    }

    private static void two() {
        begin("promise 20, 21");
        CutStones x = told("stuff s: 500 0; cut a '#; cut b '##; cut c '.#; rough r '####; rough t '#.; rough u '#; rough v '.### '####;"
                + "price p weight * 10;");
        due("two of b", x.two(3, 0, 0), 80);
        lying(x, 2, 1, 0, 0, 1, 2, 0);
        due("two of a", x.two(1, 0, 0), 40);
        lying(x, 1, 0, 0, 0, 0, 1, 0);
        // c lies with its stone at x + 1: it may begin left of the saw
        due("two of c", x.two(4, 0, 0), 40);
        lying(x, 2, 2, 0, 0, 2, 1, 0);
        due("a and c", x.two(5, 0, 0), 40);
        lying(x, 1, 0, 0, 0, 0, 1, 0);
        due("least y first on each side", x.two(3, 3, 0), 80);
        lying(x, 2, 1, 0, 1, 1, 2, 0);
        due("no such cut", x.two(8, 0, 0), NONE);
        due("no such cut", x.two(-1, 0, 0), NONE);
        due("no rough", x.two(1, 4, 0), NONE);
        due("no stuff", x.two(1, 0, 1), NONE);
        due("no stuff", x.two(1, 0, -1), NONE);
        lying(x, 2, 1, 0, 1, 1, 2, 0);
        due("one side only", x.two(1, 1, 0), -2);
        lying(x, -1, -1, -1, -1, -1, -1, -1);
        x.two(1, 0, 0);
        due("no room for a saw", x.two(1, 2, 0), -2);
        lying(x, -1, -1, -1, -1, -1, -1, -1);
        x.two(1, 0, 0);
        due("none told", x.two(0, 0, 0), -2);
        lying(x, -1, -1, -1, -1, -1, -1, -1);
        due("the least saw of the dearest", told("stuff s: 500 0; cut a '#; rough r '.#.#.#;").two(1, 0, 0), 0);
        CutStones y = told("stuff s: 500 0; cut a '#; cut b '###; rough r '##.###; price p weight;");
        due("the sum decides", y.two(3, 0, 0), 8);
        lying(y, 1, 0, 0, 0, 1, 3, 0);
    }

    private static void tests() {
        begin("promise 22, 24, 25, 26");
        CutStones x = told("stuff s: 500 0; stuff t: 1000 0, 500 0; stuff u: 0 0; cut a '#; cut b '##;");
        due("bright", x.bright(0, 0, 0), 166);
        due("bright", x.bright(1, 0, 0), 332);
        due("bright", x.bright(0, 1, 0), 0);
        due("bright", x.bright(0, 1, 3), 166);
        due("bright", x.bright(1, 2, 0), 0);
        due("no cut", x.bright(2, 0, 0), NONE);
        due("no cut", x.bright(-1, 0, 0), NONE);
        due("no stuff", x.bright(0, 3, 0), NONE);
        due("no colour", x.bright(0, 0, 4), NONE);
        due("no colour", x.bright(0, 0, -1), NONE);
        due("not remembered", x.seen(0), NONE);
        due("no cut", x.test(2, 0, 0), NONE);
        due("no colour", x.test(0, 4, 0), NONE);
        due("no colour", x.test(0, -1, 0), NONE);
        due("bright", x.test(0, 0, -1), NONE);
        due("bright", x.test(0, 0, 100001), NONE);
        due("count(5)", x.count(5), 0);
        due("barred by none", x.barred(0, 0), -2);
        due("left(0)", x.left(0), 7);
        // 180 / 20 + 5 = 14: 166 is just near enough; 181 / 20 + 5 = 14: 15 apart is too far
        due("test", x.test(0, 1, 180), 0);
        due("test", x.test(0, 1, 181), 1);
        due("test", x.test(0, 0, 5), 2);
        due("test", x.test(0, 0, 100000), 3);
        due("barred", x.barred(0, 1), -2);
        due("barred", x.barred(0, 2), 1);
        due("barred", x.barred(1, 1), -2);
        due("barred", x.barred(1, 2), 1);
        due("barred", x.barred(2, 4), 0);
        due("left(1)", x.left(1), 3);
        due("left(2)", x.left(2), 0);
        due("no n", x.barred(0, 5), NONE);
        due("no n", x.barred(0, -1), NONE);
        due("no stuff", x.barred(3, 0), NONE);
        due("no stuff", x.barred(-1, 0), NONE);
        due("no n", x.left(5), NONE);
        due("no n", x.left(-1), NONE);
        // the other side: b below the own BRIGHT, 153 / 20 + 5 = 12
        CutStones y = told("stuff s: 500 0; stuff t: 0 0; cut a '#;");
        y.test(0, 0, 154);
        y.test(0, 0, 153);
        y.test(0, 0, 5);
        due("barred", y.barred(0, 1), -2);
        due("barred", y.barred(0, 2), 1);
        y.annul(0);
        y.annul(1);
        due("barred", y.barred(0, 5), 2);
        due("0 is near 5", y.barred(1, 5), -2);
        CutStones z = told("cut a '#;");
        for (int i = 0; i < 60; i++) {
            due("test", z.test(0, 0, i), i);
        }
        due("a 61st", z.test(0, 0, 0), NONE);
        due("a 61st", z.annul(0), NONE);
        due("count(5)", z.count(5), 60);
        due("no stuffs", z.left(60), 0);
        due("next", z.next(60), -2);
        due("next", z.next(61), NONE);
    }

    private static void voids() {
        begin("promise 23, 25");
        CutStones x = told("stuff s: 500 0; cut a '#;");
        due("no test", x.annul(0), NONE);
        due("test", x.test(0, 0, 0), 0);
        due("test", x.test(0, 0, 1), 1);
        due("annul", x.annul(0), 2);
        due("annul again", x.annul(0), 3);
        due("no test: a VOID", x.annul(2), NONE);
        due("no test", x.annul(4), NONE);
        due("no test", x.annul(-1), NONE);
        due("no test", x.annul(LOW), NONE);
        due("count(5)", x.count(5), 4);
        due("known by 2", x.barred(0, 2), 0);
        due("known by 3", x.barred(0, 3), 1);
        due("annul", x.annul(1), 4);
        due("known by 4", x.barred(0, 4), 1);
        due("known by 5", x.barred(0, 5), -2);
        due("left", x.left(5), 1);
        due("test", x.test(0, 0, 1000), 5);
        due("barred", x.barred(0, 6), 5);
        for (int i = 6; i < 60; i++) {
            due("annul", x.annul(5), i);
        }
        due("no room", x.annul(5), NONE);
        due("no room", x.test(0, 0, 0), NONE);
    }

    private static void nextTest() {
        begin("promise 27");
        CutStones x = told("stuff s: 500 0, 1000 0; stuff t: 1000 0, 1000 0, 500 0; stuff u: 0 0, 0 0, 0 0, 500 0; cut a '#; cut b '##; cut c '##;");
        // of a colour 0: 166 0 0; 1: 0 0 0; 2: 0 166 0; 3: 0 166 166; of b twice as many
        due("the furthest", x.next(0), 4);
        x.test(0, 0, 0);
        due("left", x.left(1), 6);
        due("of t and u", x.next(1), 6);
        x.test(0, 2, 166);
        due("one only", x.next(2), -2);
        x.annul(0);
        due("again", x.next(3), -2);
        x.annul(1);
        due("all again", x.next(4), 4);
        due("as known by 1", x.next(1), 6);
        due("no n", x.next(5), NONE);
        due("no n", x.next(-1), NONE);
        due("no CUT", told("stuff s: 1 1; stuff t: 2 2;").next(0), -2);
        due("all alike", told("stuff s: 1 1; stuff t: 1 1; cut a '#;").next(0), 0);
    }

    private static void counts() {
        begin("promise 28");
        CutStones x = told("stuff s: 500 0; stuff t: 1 1; cut a '#; cut b '## '## '##; cut c '1; rough r '#### '####; grade g if 1 < 2;"
                + "grade h if 1 < 2; grade i if 1 < 2; grade j if 1 < 2; price p 1; price q 1; price u 1; price v 1; price w 1;");
        x.test(0, 0, 0);
        x.annul(0);
        x.feed(1, 2, 3, 4, 5);
        int[] want = {2, 3, 1, 4, 5, 2, 20, -1, -1, -1, 1, 2, 1, -1, -1, -1, -1, -1, -1, -1, 1, 3, 1, -1, -1, -1, -1, -1, -1, -1,
            4, -1, -1, -1, -1, -1, -1, -1, -1, -1, 2, -1, -1, -1, -1, -1, -1, -1, -1, -1, -1, -1, -1, -1};
        for (int i = 0; i < want.length; i++) {
            due("count(" + i + ")", x.count(i), want[i]);
        }
        due("count(-1)", x.count(-1), NONE);
        due("count(LOW)", x.count(LOW), NONE);
        due("count(HIGH)", x.count(HIGH), NONE);
        due("count(110)", x.count(110), NONE);
    }

    /** Bytes that went off again do not count, and the tape may be full. */
    private static void tapeEnds() {
        begin("promise 3, 4");
        cutOff("grade a if 1 <= 2;  ", 6, 1, 14);
        cutOff("stuff abcdefghi:1 1;", 6, 1, 14);
        cutOff("stuff abcde: 12345; ", 3, 1, 17);
        cutOff("cut a '#;'##########", 11, 0, NONE);
        cutOff("cut a '#; abc       ", 11, 0, NONE);
        cutOff("cut a '#;           ", 12, 1, 8);
        fault(times(1991, " ") + "cut a '#;", 0);
        fault(times(1992, " ") + "cut a '#@", 1);
        fault(times(1999, " ") + "@<", 1);
        fault(times(1999, "\n") + "@'", 1);
        fault(times(1986, " ") + "grade a if 1 <@", 1);
    }

    private static void cutOff(String twenty, int n, int want, int place) {
        CutStones x = new CutStones();
        feedText(x, twenty);
        due("back(" + n + ") of " + twenty, x.back(n), 20 - n);
        due("read of " + twenty, x.read(), want);
        due("place of " + twenty, x.place(), place);
    }

    /** Light goes through all the nothing that there can be. */
    private static void farStones() {
        begin("promise 9");
        String none = times(11, ".");
        CutStones x = told("stuff s: 1000 0; cut a '" + none + "#; cut b '#" + none + "; cut c" + times(11, " '.") + " '#; cut d"
                + times(11, " '#.") + " '#2;");
        due("from the left", x.ray(0, 0, 0, 3, 0, 10), 1);
        due("step", x.step(0), 11);
        due("from the right", x.ray(1, 0, 0, 1, 0, 10), 1);
        due("step", x.step(0), 0);
        due("from above", x.ray(2, 0, 0, 0, 0, 10), 1);
        due("step", x.step(0), 132);
        due("from above", x.ray(3, 0, 0, 0, 1, 10), 1);
        due("step", x.step(0), 133);
        due("meets none", x.ray(0, 0, 0, 0, 10, 10), 0);
        sparks(x, 0, 0, 0, 0, 10, 0, 0);
    }

    /** All that there is room for, in drawings of twelve by twelve. */
    private static void fullHouse() {
        begin("promise all");
        String row = " '" + times(12, "#");
        String all = "cut a" + times(12, row) + "; rough b" + times(12, row) + "; rough c '1" + times(11, ".") + times(11, " '" + times(12, ".")) + ";"
                + "stuff s: 900 0, 800 0, 700 0, 600 0;";
        CutStones x = told(all);
        due("weight", x.weight(false, 0), 288);
        due("count(10)", x.count(10), 12);
        due("count(20)", x.count(20), 12);
        due("cell", x.cell(true, 0, 11, 11), 5);
        due("cell", x.cell(true, 0, 12, 11), NONE);
        due("places", x.places(0, 0), 1);
        due("places", x.places(0, 1), 0);
        due("dearest", x.dearest(1, 0, 0), 0);
        due("two", x.two(1, 0, 0), -2);
        due("shine", x.shine(0, 0, 0, 100000, 100000, 100000, 1, 0) > 0 ? 1 : 0, 1);
        due("what came in is what came out, was eaten or is left", x.seen(0) + x.seen(1) + x.seen(5) + x.seen(6) + x.seen(7), x.seen(8));
        due("given", x.seen(8), 3600000);
    }
}
