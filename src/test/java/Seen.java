/** All that an object answers, as one text: objects that stand alike give the same text. */
final class Seen {
    /** Above all keys and doors that there can be. */
    private static final int ENOUGH = 20;

    private final MasterKeys x;
    private final int pins;
    private final int depths;
    private final StringBuilder text = new StringBuilder();

    private Seen(MasterKeys x, int pins, int depths) {
        this.x = x;
        this.pins = pins;
        this.depths = depths;
    }

    /** What can be asked without a change. */
    static String asked(MasterKeys x, int pins, int depths) {
        Seen seen = new Seen(x, pins, depths);
        seen.ask();
        return seen.text.toString();
    }

    /** What can be asked, and what was told; it takes back what was told. */
    static String all(MasterKeys x, int pins, int depths) {
        Seen seen = new Seen(x, pins, depths);
        seen.ask();
        seen.takeBack();
        return seen.text.toString();
    }

    private int keys() {
        int count = 0;
        while (count < ENOUGH && answers(count, true)) {
            count++;
        }
        return count;
    }

    private int doors() {
        int count = 0;
        while (count < ENOUGH && answers(count, false)) {
            count++;
        }
        return count;
    }

    private boolean answers(int number, boolean isKey) {
        return Check.thrownBy(() -> {
            if (isKey) {
                x.cut(number, 0);
            } else {
                x.holds(number, 0, 0);
            }
        }).equals("nothing");
    }

    private void ask() {
        int keys = keys();
        int doors = doors();
        text.append("tries ").append(x.tries()).append(" wrong ").append(x.wrong());
        text.append(" left ").append(Check.answerOf(x::left));
        for (int key = 0; key < keys; key++) {
            int lost = key;
            text.append("\nkey ").append(key).append(' ').append(Check.cuts(x, key, pins));
            text.append(" heirs ").append(Check.answerOf(() -> x.heirs(lost))).append(" fits ");
            for (int door = 0; door < doors; door++) {
                text.append(x.fits(key, door) ? 1 : 0);
            }
        }
        for (int door = 0; door < doors; door++) {
            text.append("\ndoor ").append(door);
            for (int pin = 0; pin < pins; pin++) {
                text.append(' ');
                for (int depth = 0; depth < depths; depth++) {
                    text.append(x.holds(door, pin, depth) ? 1 : 0);
                }
            }
        }
    }

    private void takeBack() {
        int keys = keys();
        int doors = doors();
        text.append("\nmust");
        for (int key = 0; key < keys; key++) {
            text.append(' ');
            for (int door = 0; door < doors; door++) {
                text.append(x.must(key, door, false) ? 1 : 0);
            }
        }
        text.append("\nbarred ");
        for (int first = 0; first < depths; first++) {
            for (int second = 0; second < depths; second++) {
                text.append(x.bar(first, second, false) ? 1 : 0);
            }
        }
        text.append("\nSTEP ").append(x.step(7)).append(" TOP ").append(x.top(8));
    }
}
