import java.util.ArrayList;
import java.util.List;
import java.util.function.Consumer;
import java.util.function.Function;

/** Objects in states that edges are asked in, and all that an object can be asked. No object goes beyond 512 calls. */
final class States {
    record Probe(String name, Function<ShoeCorner, List<Integer>> asked) {
    }

    static final List<Probe> PROBES = List.of(new Probe("the street", States::street),
        new Probe("the slots", States::slots), new Probe("the sheets", States::sheets),
        new Probe("the tape and the numbers that wait", States::waiting), new Probe("the image", States::image));
    static final List<Consumer<ShoeCorner>> NEW = List.of(x -> { });
    static final List<Consumer<ShoeCorner>> SOME = List.of(States::some);
    static final List<Consumer<ShoeCorner>> FULLEST = List.of(States::fullest);
    static final List<Consumer<ShoeCorner>> WITH_BOYS = List.of(States::some, States::fullest);
    static final List<Consumer<ShoeCorner>> ALL = List.of(x -> { }, States::some, States::fullest);

    private States() {
    }

    /** Five boys, three texts, sheet 3 missing, slot 0 with nothing, three numbers, eight bytes, an image. */
    static void some(ShoeCorner x) {
        someWithoutNumbers(x);
        ShoeCorner y = new ShoeCorner();
        someWithoutNumbers(y);
        y.back();
        x.tell(y.behind(1, 0));
        x.tell(y.behind(1, 2));
        x.tell(y.behind(2, 0));
    }

    static void someWithoutNumbers(ShoeCorner x) {
        x.seed(77);
        x.deal(3);
        x.boy(4, 6, 12, 14);
        x.boy(3, 2, 9, 7);
        x.rule(0, 15);
        x.rule(1, 30);
        x.minutes(12);
        Due.text(x, "fee l*2+s");
        Due.text(x, "shine 90-d*5+r");
        x.sheet(0, 0, 5);
        x.mark(0, 0, 4);
        x.mark(0, 4, -7);
        x.sheet(1, 1, 6);
        x.mark(1, 0, ShoeCorner.NONE);
        x.mark(1, 1, 99999);
        x.mark(1, 5, 3);
        x.sheet(2, 1, 24);
        x.mark(2, 23, 8);
        x.lay(1, 1, 3);
        x.lay(2, 2, 1);
        x.lay(3, 3, -41);
        x.lay(4, 2, 0);
        x.keep();
        x.minutes(5);
        x.turns(1, 5);
        x.set(0, 2, 33);
        x.rule(0, 40);
        Due.text(x, "fine p-d");
        Due.feed(x, "fine d+1");
    }

    /** Eight boys, 14 texts, sheets of 24 places, slots that all hold a thing, 60 numbers, 96 bytes, an image. */
    static void fullest(ShoeCorner x) {
        fullestWithoutNumbers(x);
        ShoeCorner y = new ShoeCorner();
        fullestWithoutNumbers(y);
        y.back();
        for (int n = 1; n <= 30; n++) {
            x.tell(y.behind(n, 0));
            x.tell(y.behind(n, 2));
        }
    }

    static void fullestWithoutNumbers(ShoeCorner x) {
        x.seed(-4);
        x.deal(8);
        x.rule(1, 10);
        x.minutes(30);
        x.keep();
        x.rule(0, 50);
        x.minutes(20);
        for (int i = 0; i < 14; i++) {
            Due.text(x, i % 3 == 0 ? "shine 95-d*" + i : i % 3 == 1 ? "fee s-l*" + i : "fine p+d*" + i);
        }
        for (int sheet = 0; sheet < 4; sheet++) {
            x.sheet(sheet, sheet == 3 ? 0 : 1, 24);
            x.mark(sheet, 2 * sheet, 50 + sheet);
            x.lay(sheet, sheet == 0 ? 3 : sheet == 1 ? 1 : 2, sheet);
        }
        x.lay(4, 1, 7);
        Due.feed(x, "fee 1" + "+1".repeat(45) + " ");
    }

    static List<Integer> street(ShoeCorner x) {
        List<Integer> all = new ArrayList<>();
        for (int what = 0; what < 9; what++) {
            all.add(x.count(what));
        }
        for (int what = 0; what < 5; what++) {
            all.add(x.street(what));
        }
        for (int boy = 0; boy < 8; boy++) {
            for (int what = 0; what < 10; what++) {
                all.add(x.told(boy, what));
            }
            all.add(x.shine(boy, 13, 4));
            all.add(x.fine(boy));
        }
        for (int key = 0; key < 3; key++) {
            all.add(x.why(key));
        }
        for (int text = 0; text < 14; text++) {
            all.add(x.textTold(text, 0));
            all.add(x.textTold(text, 1));
        }
        for (int place = 0; place < 10; place++) {
            all.add(x.goesTo(place, 5));
            all.add(x.goesTo(place, 9));
        }
        all.add(x.fee());
        all.add(x.behind(30, 0));
        all.add(x.behind(30, 1));
        all.add(x.behind(30, 2));
        return all;
    }

    private static List<Integer> slots(ShoeCorner x) {
        List<Integer> all = new ArrayList<>();
        for (int slot = 0; slot < 5; slot++) {
            for (int kind = 0; kind < 6; kind++) {
                all.add(x.ask(slot, kind));
            }
            for (int place = 0; place < 25; place++) {
                all.add(x.item(slot, place));
            }
            all.add(x.rest(slot, Integer.MAX_VALUE));
        }
        return all;
    }

    private static List<Integer> sheets(ShoeCorner x) {
        List<Integer> all = new ArrayList<>();
        for (int sheet = 0; sheet < 4; sheet++) {
            all.add(x.lay(0, 2, sheet));
            for (int place = 0; place < 25; place++) {
                all.add(x.item(0, place));
            }
            // The sort: KIND of shorts, 1 of floats.
            all.add(x.mark(sheet, 0, ShoeCorner.NONE));
        }
        return all;
    }

    private static List<Integer> waiting(ShoeCorner x) {
        List<Integer> all = new ArrayList<>();
        all.add(x.count(6));
        all.add(x.count(7));
        all.add(x.check(30));
        // Room for a text: as it is, or by the image, which has fewer.
        x.back();
        all.add(x.text());
        all.add(x.textTold(x.count(5) - 1, 0));
        all.add(x.textTold(x.count(5) - 1, 1));
        all.add(x.fee());
        all.add(x.fine(0));
        return all;
    }

    private static List<Integer> image(ShoeCorner x) {
        List<Integer> all = new ArrayList<>();
        all.add(x.back());
        all.addAll(street(x));
        return all;
    }
}
