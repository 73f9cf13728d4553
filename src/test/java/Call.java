import java.util.Arrays;

/** A call of the face by its name, to be put to the class and to the model alike. */
record Call(String name, int... n) {
    int of(WaryHouses x) {
        return switch (name) {
            case "feed" -> x.feed(n[0]);
            case "end" -> x.end(n[0]);
            case "text" -> x.text();
            case "fault" -> x.fault();
            case "rule" -> x.rule(n[0]);
            case "house" -> x.house(n[0], n[1]);
            case "receiver" -> x.receiver(n[0], n[1], n[2]);
            case "address" -> x.address(n[0], n[1]);
            case "leads" -> x.leads(n[0], n[1]);
            case "reaches" -> x.reaches(n[0], n[1]);
            case "send" -> x.send(n[0], n[1], n[2]);
            case "tick" -> x.tick(n[0]);
            case "run" -> x.run(n[0]);
            case "set" -> x.set(n[0], n[1]);
            case "item" -> x.item(n[0], n[1], n[2]);
            case "asks" -> x.asks(n[0], n[1], n[2]);
            case "stranger" -> x.stranger(n[0], n[1], n[2]);
            case "log" -> x.log(n[0], n[1]);
            case "draw" -> x.draw(n[0], n[1]);
            case "keep" -> x.keep(n[0]);
            case "back" -> x.back(n[0]);
            case "sheet" -> x.sheet(n[0], n[1], n[2]);
            case "lay" -> x.lay(n[0], n[1], n[2]);
            case "post" -> x.post(n[0], n[1], n[2], n[3]);
            case "count" -> x.count(n[0]);
            default -> throw new IllegalArgumentException(name);
        };
    }

    int of(Model m) {
        return switch (name) {
            case "feed" -> m.feed(n[0]);
            case "end" -> m.end(n[0]);
            case "text" -> m.text();
            case "fault" -> m.fault();
            case "rule" -> m.rule(n[0]);
            case "house" -> m.house(n[0], n[1]);
            case "receiver" -> m.receiver(n[0], n[1], n[2]);
            case "address" -> m.address(n[0], n[1]);
            case "leads" -> m.leads(n[0], n[1]);
            case "reaches" -> m.reaches(n[0], n[1]);
            case "send" -> m.send(n[0], n[1], n[2]);
            case "tick" -> m.tick(n[0]);
            case "run" -> m.run(n[0]);
            case "set" -> m.set(n[0], n[1]);
            case "item" -> m.item(n[0], n[1], n[2]);
            case "asks" -> m.asks(n[0], n[1], n[2]);
            case "stranger" -> m.stranger(n[0], n[1], n[2]);
            case "log" -> m.log(n[0], n[1]);
            case "draw" -> m.draw(n[0], n[1]);
            case "keep" -> m.keep(n[0]);
            case "back" -> m.back(n[0]);
            case "sheet" -> m.sheet(n[0], n[1], n[2]);
            case "lay" -> m.lay(n[0], n[1], n[2]);
            case "post" -> m.post(n[0], n[1], n[2], n[3]);
            case "count" -> m.count(n[0]);
            default -> throw new IllegalArgumentException(name);
        };
    }

    @Override
    public String toString() {
        String numbers = Arrays.toString(n);
        return name + "(" + numbers.substring(1, numbers.length() - 1) + ")";
    }
}
