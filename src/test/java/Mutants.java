import java.io.IOException;
import java.nio.charset.StandardCharsets;
import java.nio.file.Files;
import java.nio.file.Path;
import java.nio.file.Paths;
import java.util.ArrayList;
import java.util.Comparator;
import java.util.List;
import java.util.concurrent.ExecutorService;
import java.util.concurrent.Executors;
import java.util.concurrent.Future;
import java.util.concurrent.TimeUnit;
import java.util.stream.Collectors;
import java.util.stream.Stream;

/**
 * A tool, not a test: breaks the program on purpose, one sentence of the document at a time, and asks whether the test
 * of that sentence tells it. It goes by the words of the source, so a change there may want a change here:
 * java -cp (classes of all tests) Mutants src/main/java/BracketTongue.java (those classes again) [a sentence's number].
 */
final class Mutants {
    private static final int SECONDS_MOST = 60;

    // The sentence's number in the boundary tests; the words that are broken (their first place); what stands there then.
    private static final String[][] ALL = {
        {"T1", "TAPE_MOST = 3000;", "TAPE_MOST = 2980;"},
        {"T2", "|| sign == '\\t') {", ") {"},
        {"T2", "|| sign == '\\t') {", "|| sign == '\\t' || sign == '\\r') {"},
        {"T2", "sign == ' ' || sign == '\\n'", "sign == ' '"},
        {"T2", "sign >= 'a' && sign <= 'z'", "sign >= 'a' && sign <= 'y'"},
        {"T2", "sign >= 'a' && sign <= 'z'", "sign >= 96 && sign <= 'z'"},
        {"T2", "sign >= 'a' && sign <= 'z'", "sign >= 'a' && sign <= '{'"},
        {"T2", "sign >= '0' && sign <= '9'", "sign >= '0' && sign <= '8'"},
        {"T2", "sign >= '0' && sign <= '9'", "sign >= '0' && sign <= ':'"},
        {"T2", "\"+-*/<>=!?_#\"", "\"+-*/<>=!?_#@\""},
        {"T2", "\"+-*/<>=!?_#\"", "\"+-*/<=!?_#\""},
        {"T2", "text[place] & 255", "text[place] & 127"},
        {"T3", "|| sign == '\\t') {", "|| sign == '\\t' || sign == 11) {"},
        {"T3", "\"+-*/<>=!?_#\"", "\"+-*/<>=!?_\""},
        {"T4", "signAt(i) == '\\n') {", "signAt(i) == '\\r') {"},
        {"T4", "return i + 1;\n                }\n            }\n            return length;",
            "return i + 2;\n                }\n            }\n            return length;"},
        {"T4", "return i + 1;\n                }\n            }\n            return length;",
            "return i + 1;\n                }\n            }\n            return place + 1;"},
        {"T5", "\"+-*/<>=!?_#\"", "\"+-*/<>=!?#\""},
        {"T6", "MAGNITUDE_MOST : MAGNITUDE_MOST - 1", "MAGNITUDE_MOST : MAGNITUDE_MOST"},
        {"T6", "MAGNITUDE_MOST : MAGNITUDE_MOST - 1", "MAGNITUDE_MOST : MAGNITUDE_MOST - 2"},
        {"T6", "(isNegative ? MAGNITUDE_MOST :", "(isNegative ? MAGNITUDE_MOST - 1 :"},
        {"T6", "(isNegative ? MAGNITUDE_MOST :", "(isNegative ? MAGNITUDE_MOST + 1 :"},
        {"T6", "Math.min(magnitude * 10 + (sign - '0'), MAGNITUDE_MOST + 1)", "magnitude * 10 + (sign - '0')"},
        {"T7", "end - place == 2 &&", "end - place >= 2 &&"},
        {"T7", "(second == 't' || second == 'f')", "(second == 't' || second == 'f' || second == 'a')"},
        {"T8", "NAME_BYTES_MOST = 12;", "NAME_BYTES_MOST = 11;"},
        {"T8", "NAME_BYTES_MOST = 12;", "NAME_BYTES_MOST = 13;"},
        {"T8", "back = (back << 8) | sign;", "back = sign & 15;"},
        {"T8", "front = (front << 8) | sign;", "front = sign;"},
        {"T9", "isDigit(sign) || (sign == '-' && isDigit(second))", "isDigit(sign)"},
        {"T9", "isDigit(sign) || (sign == '-' && isDigit(second))", "(sign == '-' && isDigit(second))"},
        {"T9", "isDigit(sign) || (sign == '-' && isDigit(second))", "isDigit(sign) || sign == '-'"},
        {"T9", "end - place > 1 ? signAt(place + 1) : 0", "end - place > 1 ? signAt(end - 1) : 0"},
        {"T10", "if (content == 0 || level > LEVELS_MOST)", "if (level > LEVELS_MOST)"},
        {"T10", "addPart(newNode(NAME, QUOTE, place));", "addPart(newNode(NAME, LAMBDA, place));"},
        {"T11", "end - place > NAME_BYTES_MOST) {\n                found.tell(FAULT_TOKEN, place);",
            "end - place > NAME_BYTES_MOST) {\n                found.tell(FAULT_TOKEN, end);"},
        {"T11", "if (!isDigit(sign)) {\n                    found.tell(FAULT_TOKEN, place);",
            "if (!isDigit(sign)) {\n                    found.tell(FAULT_TOKEN, i);"},
        {"T12", "found.tell(FAULT_TOKEN, length);", "found.tell(FAULT_TOKEN, length - 1);"},
        {"T12", "found.tell(FAULT_TOKEN, length);", "found.tell(FAULT_TOKEN, text.length);"},
        {"T12", "if (nesting > 0) {", "if (nesting > 0 && !isInQuote()) {"},
        {"T13", " && !isInQuote()) {", ") {"},
        {"T13", "sign == ')' && nesting > 0 &&", "sign == ')' &&"},
        {"T14", "NESTING_MOST = 30;", "NESTING_MOST = 29;"},
        {"T14", "NESTING_MOST = 30;", "NESTING_MOST = 31;"},
        {"T14", "for (int i = 0; i < NESTING_MOST && isInQuote(); i++)",
            "for (int i = 0; i < 1 && isInQuote(); i++)"},
        {"T15", "if (kind == 0) {", "if (newKind > 0) {"},
        {"T15", "if (kind == 0) {", "if (kind == 0 || newKind < kind) {"},
        {"T16", "reader.readText(tape, n);\n        if (found.isNone()) {\n            compiler.compile(spare);",
            "reader.readText(tape, n);\n        if (true) {\n            found.forget();\n            compiler.compile(spare);"},
        {"T17", "program.rowForms = reader.partsOf(Reader.ROW);", "program.rowForms = Math.max(1, reader.partsOf(Reader.ROW));"},
        {"T18", "parts >= 3 && areNames", "parts >= 2 && areNames"},
        {"T18", "parts >= 3 && areBindings", "parts >= 2 && areBindings"},
        {"T18", "return parts >= 2;", "return parts >= 1;"},
        {"T18", "return parts >= 2;", "return parts >= 3;"},
        {"T19", "return parts == 2;", "return parts >= 2;"},
        {"T19", "return parts == 2;", "return parts <= 2;"},
        {"T19", "return parts == 4;", "return parts >= 4;"},
        {"T19", "return parts == 4;", "return parts == 4 || parts == 3;"},
        {"T19", "return parts == 3 && reader.isName", "return parts >= 3 && reader.isName"},
        {"T19", "return parts == 3 && reader.isName", "return parts <= 3 && reader.isName"},
        {"T19", "level == 0 && parts == 3 &&", "level == 0 && parts >= 3 &&"},
        {"T19", "reader.partsOf(part) == 2 &&", "reader.partsOf(part) >= 2 &&"},
        {"T19", "reader.partsOf(part) == 2 &&", "reader.partsOf(part) <= 2 &&"},
        {"T20", "areFine = reader.isName(part);", "areFine = true;"},
        {"T20", "reader.partsOf(part) == 2 && reader.isName(reader.firstOf(part))", "reader.partsOf(part) == 2"},
        {"T20", "return parts == 3 && reader.isName(second);", "return parts == 3;"},
        {"T20", "level == 0 && parts == 3 && reader.isName(second)", "level == 0 && parts == 3"},
        {"T20", "boolean areFine = reader.isList(list) && parts <= PARTS_MOST;", "boolean areFine = parts <= PARTS_MOST;"},
        {"T21", "level == 0 && parts == 3", "parts == 3"},
        {"T21", "level == 0 && parts == 3", "level <= 1 && parts == 3"},
        {"T22", "reader.isList(list) && parts <= PARTS_MOST;", "reader.isList(list) && parts < PARTS_MOST;"},
        {"T22", "reader.isList(list) && parts <= PARTS_MOST;", "reader.isList(list) && parts <= PARTS_MOST + 1;"},
        {"T23", "areBindings(int list) {\n            int parts = reader.partsOf(list);",
            "areBindings(int list) {\n            int parts = Math.min(PARTS_MOST, reader.partsOf(list));"},
        {"T23", "areBindings(int list) {\n            int parts = reader.partsOf(list);",
            "areBindings(int list) {\n            int parts = reader.partsOf(list) == 8 ? 9 : reader.partsOf(list);"},
        {"T24", "parts <= PARTS_MOST + 1", "parts <= PARTS_MOST"},
        {"T24", "parts <= PARTS_MOST + 1", "parts <= PARTS_MOST + 2"},
        {"T25", "parts >= 1 && parts <= PARTS_MOST + 1", "parts >= 2 && parts <= PARTS_MOST + 1"},
        {"T25", "boolean areFine = reader.isList(list) && parts <= PARTS_MOST;",
            "boolean areFine = reader.isList(list) && parts <= PARTS_MOST && parts > 0;"},
        {"T26", "boolean isFine = reader.contentOf(node) >= ALL_WORDS;", "boolean isFine = reader.contentOf(node) >= FORM_WORDS;"},
        {"T26", "boolean isFine = reader.contentOf(node) >= ALL_WORDS;", "boolean isFine = reader.contentOf(node) >= ALL_WORDS - 1;"},
        {"T26", "if (name < ALL_WORDS) {\n                tell(FAULT_BINDING", "if (name < FORM_WORDS) {\n                tell(FAULT_BINDING"},
        {"T26", "found.tell(FAULT_BINDING, reader.placeOf(node));", "found.tell(FAULT_BINDING, reader.placeOf(list));"},
        {"T27", "tell(FAULT_FORM, node);\n            } else if", "tell(FAULT_MEANING, node);\n            } else if"},
        {"T27", "if (name < FORM_WORDS) {", "if (name < ALL_WORDS) {"},
        {"T28", "parts >= 1 && parts <= PARTS_MOST + 1", "parts <= PARTS_MOST + 1"},
        {"T29", "return scope.find(name) != NONE || definedNumber(name) != NONE;", "return scope.find(name) != NONE;"},
        {"T29", "return scope.find(name) != NONE || definedNumber(name) != NONE;", "return definedNumber(name) != NONE;"},
        {"T29", "scope.unbindTo(around);\n            if (!last) {", "if (!last) {"},
        {"T29", "scope.leaveBody();\n            scope.unbindTo(around);", "scope.leaveBody();"},
        {"T29", "} else if (!hasMeaning(name)) {\n                tell(FAULT_MEANING, second);", "} else if (!hasMeaning(name)) {\n                tell(FAULT_MEANING, node);"},
        {"T30", "isFine = reader.contentOf(earlier) != reader.contentOf(node);", "isFine = true;"},
        {"T30", "i < before && isFine;", "i < before - 1 && isFine;"},
        {"T30", "boolean isFine = reader.contentOf(node) >= ALL_WORDS;",
            "boolean isFine = reader.contentOf(node) >= ALL_WORDS && scope.find(reader.contentOf(node)) == NONE;"},
        {"T31", "DEFINED_MOST = 100;", "DEFINED_MOST = 99;"},
        {"T31", "DEFINED_MOST = 100;", "DEFINED_MOST = 101;"},
        {"T31", "tell(FAULT_ROOM, second);", "tell(FAULT_ROOM, node);"},
        {"T32", "name < definedAs.length && definedAs[name] == NONE", "name < definedAs.length"},
        {"T33", "LAMBDAS_MOST = 120;", "LAMBDAS_MOST = 119;"},
        {"T33", "LAMBDAS_MOST = 120;", "LAMBDAS_MOST = 121;"},
        {"T34", "FORMS_MOST = 1500;", "FORMS_MOST = 1499;"},
        {"T34", "FORMS_MOST = 1500;", "FORMS_MOST = 1501;"},
        {"T34", "countForm(node);\n            switch (word)", "if (word != LAMBDA) {\n                countForm(node);\n            }\n            switch (word)"},
        {"T34", "countForm(node);\n            switch (word)", "if (word != DEFINE) {\n                countForm(node);\n            }\n            switch (word)"},
        {"T35", "checkBound(list, i, name);", "checkBound(list, i, name);\n                countForm(name);"},
        {"T35", "scope.bind(reader.contentOf(reader.firstOf(pair)), start + i);",
            "scope.bind(reader.contentOf(reader.firstOf(pair)), start + i);\n                countForm(pair);"},
        {"T35", "long value = datum(reader.secondOf(node), level);", "countForm(node);\n            long value = datum(reader.secondOf(node), level);"},
        {"T35", "form(reader.nextOf(second), false, level);\n            if (found.isNone()) {",
            "countForm(second);\n            form(reader.nextOf(second), false, level);\n            if (found.isNone()) {"},
        {"T36", "if (!isShaped(node, word, level)) {", "countForm(node);\n            forms--;\n            if (!isShaped(node, word, level)) {"},
        {"T36", "if (reader.isName(node)) {\n                nameForm(node);", "countForm(node);\n            forms--;\n            if (reader.isName(node)) {\n                nameForm(node);"},
        {"T37", "int pair = reader.firstOf(list);\n            for (int i = 0; i < pairs; i++) {\n                checkBound(list, i, reader.firstOf(pair));\n",
            "int pair = reader.firstOf(list);\n            for (int i = 0; i < pairs; i++) {\n                checkBound(list, i, reader.firstOf(pair));\n"
            + "                pair = reader.nextOf(pair);\n            }\n            pair = reader.firstOf(list);\n            for (int i = 0; i < pairs; i++) {\n"},
        {"T38", "reader.wordOf(node) == DEFINE && isShaped(node, DEFINE, 0)", "reader.wordOf(node) == DEFINE && reader.isName(reader.secondOf(node))"},
        {"T38", "if (!isShaped(node, word, level)) {\n                tell(FAULT_FORM, node);\n                return;\n            }",
            "boolean shaped = isShaped(node, word, level);\n            if (!shaped && word != NONE) {\n                tell(FAULT_FORM, node);\n                return;\n            }"},

        {"W1", "Value.of(INTEGER, a + b)", "Value.of(INTEGER, (int) Math.min(2147483647L, (long) a + b))"},
        {"W1", "Value.of(INTEGER, a - b)", "Value.of(INTEGER, (int) Math.max(-2147483648L, (long) a - b))"},
        {"W1", "Value.of(INTEGER, a * b)", "Value.of(INTEGER, (int) Math.min(2147483647L, (long) a * b))"},
        {"W1", "Value.truth(a < b)", "Value.truth(a - b < 0)"},
        {"W2", "setGlobal(operand, value);\n            }\n            push(NOTHING);", "setGlobal(operand, value);\n            }\n            push(value);"},
        {"W2", "setGlobal(operand, pop());\n                push(NOTHING);", "setGlobal(operand, peek(top - 1));"},
        {"W2", "ports.give(Value.contentOf(first));\n                    return NOTHING;", "ports.give(Value.contentOf(first));\n                    return first;"},
        {"W2", "heap.put(Value.contentOf(first), second);\n                    return NOTHING;", "heap.put(Value.contentOf(first), second);\n                    return first;"},
        {"W2", "heap.put(Value.contentOf(first) + 1, second);\n                    return NOTHING;", "heap.put(Value.contentOf(first) + 1, second);\n                    return first;"},
        {"W3", "Value.kindOf(pop()) == FALSE ?", "Value.kindOf(pop()) <= FALSE ?"},
        {"W3", "stopIf(Value.kindOf(peek(top - 1)) == FALSE, operand)", "stopIf(Value.kindOf(peek(top - 1)) <= FALSE, operand)"},
        {"W3", "stopIf(Value.kindOf(peek(top - 1)) != FALSE, operand)", "stopIf(Value.kindOf(peek(top - 1)) > FALSE, operand)"},
        {"W3", "Value.truth(kind == FALSE)", "Value.truth(kind == FALSE || kind == EMPTY)"},
        {"W4", "form(part, false, level);\n                part = reader.nextOf(part);\n            }\n            emit(last",
            "form(part, false, level);\n                emit(DROP, 0, -1);\n                form(part, false, level);\n                part = reader.nextOf(part);\n            }\n            emit(last"},
        {"W5", "int pair = reader.firstOf(list);\n            for (int i = 0; i < pairs; i++) {\n                checkBound(list, i, reader.firstOf(pair));\n"
            + "                form(reader.secondOf(pair), false, level);\n                pair = reader.nextOf(pair);\n            }\n            bindPairs(list, start);",
            "int pair = reader.firstOf(list);\n            for (int i = 0; i < pairs; i++) {\n                checkBound(list, i, reader.firstOf(pair));\n"
            + "                form(reader.secondOf(pair), false, level);\n                scope.bind(reader.contentOf(reader.firstOf(pair)), start + i);\n                pair = reader.nextOf(pair);\n            }"},
        {"W6", "push(Value.of(UNSET, 0));", "push(NOTHING);"},
        {"W6", "bindPairs(list, start);\n            emit(BLANKS, pairs, pairs);", "bindPairs(list, start);\n            emit(BLANKS, pairs, pairs);\n            depth += 0;\n            scope.unbindTo(around);"},
        {"W7", "Arrays.fill(globals, Value.of(UNSET, 0));", "Arrays.fill(globals, NOTHING);"},
        {"W8", "case STOP_IF_FALSE:\n                    stopIf(Value.kindOf(peek(top - 1)) == FALSE", "case STOP_IF_FALSE:\n                    stopIf(Value.kindOf(peek(top - 1)) != FALSE"},
        {"W8", "case STOP_IF_TRUE:\n                    stopIf(Value.kindOf(peek(top - 1)) != FALSE", "case STOP_IF_TRUE:\n                    stopIf(Value.kindOf(peek(top - 1)) == FALSE"},
        {"W8", "form(part, last, level);\n            for (int i = 0; i < parts - 1; i++) {", "form(part, last, level);\n            for (int i = 0; i < Math.min(1, parts - 1); i++) {"},
        {"W9", "poke(slot, Value.of(SHARED, binding));", "poke(slot, there);"},
        {"W9", "return Value.kindOf(value) == SHARED ? heap.look(Value.contentOf(value)) : value;", "return value;"},
        {"W10", "System.arraycopy(program.data, 0, fields, 0, program.dataSize);", "if (size == 0) {\n                System.arraycopy(program.data, 0, fields, 0, program.dataSize);\n            }"},
        {"W11", "if (content == 0 || level > LEVELS_MOST)", "if (level > LEVELS_MOST)"},
        {"W12", "kind == PROCEDURE || kind == PRIMITIVE", "kind == PROCEDURE"},
        {"W12", "Value.truth(kind == PAIR)", "Value.truth(kind == PAIR || kind == EMPTY)"},
        {"W12", "Value.truth(kind == EMPTY)", "Value.truth(kind == EMPTY || kind == FALSE)"},
        {"W12", "Value.truth(kind == INTEGER)", "Value.truth(kind <= INTEGER)"},
        {"W13", "Value.truth(first == second)", "Value.truth(kind == Value.kindOf(second))"},
        {"W13", "Value.truth(first == second)", "Value.truth((int) first == (int) second)"},
        {"W13", "Value.truth(first == second)", "Value.truth(first == second && kind != NOTHING)"},
        {"W14", "b == 0 ? 0 : a / b", "b == 0 ? 0 : Math.floorDiv(a, b)"},
        {"W14", "b == 0 ? 0 : a % b", "b == 0 ? 0 : Math.floorMod(a, b)"},
        {"W14", "b == 0 ? 0 : a / b", "b == 0 ? 0 : (int) Math.min(2147483647L, (long) a / b)"},
        {"W15", "int value = ring[Math.floorMod(firstInput, INPUTS_MOST)];", "int value = ring[Math.floorMod(firstInput + inputs - 1, INPUTS_MOST)];"},
        {"W15", "row[outputs] = value;", "row[outputs] = Math.max(value, -2147483647);"},
        {"W16", "fail(ERROR_NOT_CALLABLE);", "fail(ERROR_HOW_MANY);"},
        {"W17", "if (got != program.wantedBy(lambda)) {", "if (got < program.wantedBy(lambda)) {"},
        {"W17", "if (got != program.wantedBy(lambda)) {", "if (got > program.wantedBy(lambda)) {"},
        {"W17", "got == wantedByPrimitive(primitive) ?", "got >= wantedByPrimitive(primitive) ?"},
        {"W17", "got == wantedByPrimitive(primitive) ?", "got <= wantedByPrimitive(primitive) ?"},
        {"W18", "Value.kindOf(first) == INTEGER && Value.kindOf(second) == INTEGER", "Value.kindOf(first) == INTEGER"},
        {"W18", "Value.kindOf(first) == INTEGER && Value.kindOf(second) == INTEGER", "Value.kindOf(second) == INTEGER"},
        {"W18", "return Value.kindOf(first) == PAIR ? 0 : ERROR_KIND;", "return Value.kindOf(first) >= PAIR ? 0 : ERROR_KIND;"},
        {"W18", "return Value.kindOf(first) == INTEGER ? 0 : ERROR_KIND;", "return Value.kindOf(first) <= INTEGER ? 0 : ERROR_KIND;"},
        {"W19", "if (!areIntegers(first, second)) {", "if (Value.contentOf(second) == 0) {\n                        return ERROR_DIVISION;\n                    }\n                    if (!areIntegers(first, second)) {"},
        {"W19", "Value.contentOf(second) == 0 ? ERROR_DIVISION : 0", "Value.contentOf(second) == 0 && Value.contentOf(first) != 0 ? ERROR_DIVISION : 0"},
        {"W20", "if (Value.kindOf(before) == UNSET) {", "if (Value.kindOf(before) == UNSET && operation != SET_GLOBAL) {"},
        {"W20", "if (Value.kindOf(before) == UNSET) {", "if (Value.kindOf(before) == UNSET && operation == SET_GLOBAL) {"},
        {"W20", "if (Value.kindOf(value) == UNSET) {\n                fail", "if (Value.kindOf(value) == UNSET && operation == GLOBAL) {\n                fail"},
        {"W20", "if (Value.kindOf(value) == UNSET) {\n                fail", "if (Value.kindOf(value) == UNSET || value == NOTHING) {\n                fail"},
        {"W21", "CELLS_MOST = 40000;", "CELLS_MOST = 39999;"},
        {"W21", "CELLS_MOST = 40000;", "CELLS_MOST = 40001;"},
        {"W21", "size = program.dataSize;\n            cells = 0;", "size = program.dataSize;"},
        {"W21", "size = program.dataSize;\n            cells = 0;", "size = program.dataSize;\n            cells = program.dataSize / 2;"},
        {"W22", "if (!heap.hasRoom(1 + kept)) {", "if (!heap.hasRoom(1)) {"},
        {"W22", "if (!heap.hasRoom(1 + kept)) {", "if (!heap.hasRoom(kept)) {"},
        {"W23", "cells += 1 + kept;", "cells += 1;"},
        {"W23", "cells += 1 + kept;", "cells += Math.max(1, kept);"},
        {"W23", "if (keptPlace(inner, binding) == NONE &&", "if ("},
        {"W24", "OPEN_MOST = 1000;", "OPEN_MOST = 999;"},
        {"W24", "OPEN_MOST = 1000;", "OPEN_MOST = 1001;"},
        {"W25", "form(then, last, level);\n            int toEnd = last ? NONE : emit(JUMP, 0, 0);", "form(then, false, level);\n            giveBackIf(last);\n            int toEnd = last ? NONE : emit(JUMP, 0, 0);"},
        {"W25", "form(reader.nextOf(then), last, level);", "form(reader.nextOf(then), false, level);\n            giveBackIf(last);"},
        {"W25", "form(part, last, level);", "form(part, false, level);\n            giveBackIf(last && parts == 1);"},
        {"W25", "form(node, last && isEnd, level);", "form(node, false, level);\n                giveBackIf(last && isEnd);"},
        {"W25", "!last && open >= OPEN_MOST", "open >= OPEN_MOST"},
        {"W26", "form(part, false, level);\n                // Until", "form(part, last, level);\n                // Until"},
        {"W26", "form(condition, false, level);", "form(condition, last, level);"},
        {"W26", "form(node, last && isEnd, level);", "form(node, last, level);"},
        {"W27", "if (got != program.wantedBy(lambda)) {\n                fail(ERROR_HOW_MANY);\n            } else if (!last && open >= OPEN_MOST) {\n                fail(ERROR_DEEP);",
            "if (!last && open >= OPEN_MOST) {\n                fail(ERROR_DEEP);\n            } else if (got != program.wantedBy(lambda)) {\n                fail(ERROR_HOW_MANY);"},
        {"W27", "} else if (!last && open >= OPEN_MOST) {\n                fail(ERROR_DEEP);\n            } else if (stepsLeft <= 0) {\n                hold(RUN_STEPS);",
            "} else if (stepsLeft <= 0) {\n                hold(RUN_STEPS);\n            } else if (!last && open >= OPEN_MOST) {\n                fail(ERROR_DEEP);"},
        {"W28", "if (answer == RUN_THROUGH || answer >= RUN_ERROR) {", "if (answer >= RUN_ERROR) {\n                place++;\n            }\n            if (answer == RUN_THROUGH) {"},
        {"W29", "long value = valueOf(primitive, first, second);", "steps++;\n                long value = valueOf(primitive, first, second);"},
        {"W30", "} else if (stepsLeft <= 0) {", "} else if (stepsLeft < 0) {"},
        {"W30", "} else if (stepsLeft <= 0) {", "} else if (stepsLeft <= 1) {"},
        {"W31", "primitive == READ && ports.inputs == 0", "primitive == READ && ports.inputs < 0"},
        {"W31", "primitive == READ && ports.inputs == 0", "primitive == READ && ports.inputs <= 1"},
        {"W32", "OUTPUTS_MOST = 1000;", "OUTPUTS_MOST = 999;"},
        {"W32", "OUTPUTS_MOST = 1000;", "OUTPUTS_MOST = 1001;"},
        {"W32", "int error = got == wanted", "if (primitive == EMIT && ports.outputs >= OUTPUTS_MOST) {\n                hold(RUN_OUTPUTS_FULL);\n                return;\n            }\n            int error = got == wanted"},
        {"W33", "hold(RUN_INPUT_LACKS);", "place--;\n                hold(RUN_INPUT_LACKS);"},
        {"W33", "hold(RUN_STEPS);", "steps++;\n                hold(RUN_STEPS);"},

        {"P1", "int answer = NONE;", "int answer;"},
        {"P1", "pointer = NOTHING;\n        places", "pointer = TRUE;\n        places"},
        {"P1", "int place = NONE;", "int place;"},
        {"P2a", "(number >> shift)", "(number >> (24 - shift))"},
        {"P2a", "putOnTape(d);\n        putOnTape(e);", "putOnTape(e);\n        putOnTape(d);"},
        {"P2b", "tapeLength + FEED_BYTES > TAPE_MOST", "tapeLength + FEED_BYTES >= TAPE_MOST"},
        {"P2b", "tapeLength + FEED_BYTES > TAPE_MOST", "tapeLength >= TAPE_MOST && a != 0"},
        {"P3a", "tapeLength = 0;\n        found.forget();", "tapeLength -= n;\n        found.forget();"},
        {"P3a", "tapeLength = 0;\n        found.forget();", "found.forget();"},
        {"P3a", "reader.readText(tape, n);", "reader.readText(tape, Math.max(n, 1));"},
        {"P3b", "ports.forgetAll();", ""},
        {"P3b", "machine.begin(program);\n        pointer = NOTHING;", "machine.begin(program);"},
        {"P3b", "Arrays.fill(places, NOTHING);", ""},
        {"P3b", "hasProgram = true;\n        beginAnew();", "hasProgram = true;\n        machine.program = program;"},
        {"P3c", "compiler.compile(spare);\n        }", "compiler.compile(program);\n        }"},
        {"P3c", "if (!found.isNone()) {\n            return NONE;", "if (!found.isNone()) {\n            pointer = NOTHING;\n            return NONE;"},
        {"P3c", "if (!found.isNone()) {\n            return NONE;", "if (!found.isNone()) {\n            machine.ports.forgetAll();\n            return NONE;"},
        {"P3c", "if (!found.isNone()) {\n            return NONE;", "if (!found.isNone()) {\n            hasProgram = true;\n            return NONE;"},
        {"P3d", "if (n < 0 || n > tapeLength) {", "if (n > tapeLength) {"},
        {"P3d", "if (n < 0 || n > tapeLength) {", "if (n < 0 || n > TAPE_MOST) {"},
        {"P3d", "if (n < 0 || n > tapeLength) {", "if (n < 0 || n > tapeLength + 1) {"},
        {"P3d", "if (n < 0 || n > tapeLength) {", "if (n < 0 || n > tapeLength) {\n            tapeLength = 0;"},
        {"P4a", "if (n < 0 || n > tapeLength) {", "if (n < 0 || n > tapeLength) {\n            found.forget();"},
        {"P4a", "tapeLength = 0;\n        found.forget();", "tapeLength = 0;\n        found.kind = 0;"},
        {"P4b", "return found.place;\n            default:\n                return NONE;", "return found.place;\n            default:\n                return 0;"},
        {"P5a", "Arrays.fill(globals, Value.of(UNSET, 0));", ""},
        {"P5a", "steps = 0;", ""},
        {"P5a", "latest = NOTHING;\n            through = 0;", "latest = NOTHING;"},
        {"P5a", "place = 0;\n            open = 0;", "place = 0;"},
        {"P5a", "outputs = 0;\n        }\n\n        int take", "}\n\n        int take"},
        {"P5a", "inputs = 0;\n            outputs = 0;", "outputs = 0;"},
        {"P5a", "answer = NONE;\n            steps = 0;", "steps = 0;"},
        {"P5b", "return hasProgram;", "return true;"},
        {"P5b", "if (hasProgram) {\n            beginAnew();", "found.forget();\n        if (hasProgram) {\n            beginAnew();"},
        {"P6a", "INPUTS_MOST = 200;", "INPUTS_MOST = 199;"},
        {"P6a", "INPUTS_MOST = 200;", "INPUTS_MOST = 201;"},
        {"P6a", "if (inputs >= INPUTS_MOST) {", "if (inputs >= INPUTS_MOST) {\n            ring[firstInput] = value;"},
        {"P6a", "ring[Math.floorMod(firstInput + inputs, INPUTS_MOST)]", "ring[Math.min(firstInput + inputs, INPUTS_MOST - 1)]"},
        {"P6b", "return hasProgram ? machine.ports.take(v) : NONE;", "return machine.ports.take(v);"},
        {"P7a", "RUN_ERROR = 10;", "RUN_ERROR = 9;"},
        {"P7b", "answer == RUN_THROUGH || answer >= RUN_ERROR) {", "answer == RUN_THROUGH || answer >= RUN_ERROR) {\n                answer = RUN_THROUGH;"},
        {"P7b", "answer == RUN_THROUGH || answer >= RUN_ERROR", "answer >= RUN_THROUGH"},
        {"P7c", "STEPS_MOST = 20000;", "STEPS_MOST = 19999;"},
        {"P7c", "STEPS_MOST = 20000;", "STEPS_MOST = 20001;"},
        {"P7c", "if (!hasProgram || n < 0 ||", "if (!hasProgram ||"},
        {"P7c", "if (!hasProgram || n < 0 ||", "if (n < 0 ||"},
        {"P7c", "n > STEPS_MOST) {", "n > STEPS_MOST) {\n            machine.answer = NONE;"},
        {"P7d", "pointer = machine.latest;", "pointer = machine.latest == NOTHING ? pointer : machine.latest;"},
        {"P7d", "machine.work(n);\n        pointer = machine.latest;", "long before = machine.latest;\n        machine.work(n);\n        pointer = before == machine.latest ? pointer : machine.latest;"},
        {"P8", "i >= 0 && i < outputs ? row[i] : 0", "i >= 0 && i < row.length ? row[i] : 0"},
        {"P8", "i >= 0 && i < outputs ? row[i] : 0", "i >= 0 && i < outputs ? row[i] : NONE"},
        {"P9", "int dropped = outputs;\n            outputs = 0;", "int dropped = outputs;"},
        {"P9", "return dropped;", "return outputs;"},
        {"P10a", "return Value.kindOf(value) == UNSET ? NOTHING : value;", "return value;"},
        {"P10a", "definedAs[name] = program.defined;", "definedAs[name] = 99 - program.defined;"},
        {"P10b", "i >= program.defined) {", "i > program.defined) {"},
        {"P10b", "i >= program.defined) {", "i >= program.defined) {\n            pointer = NOTHING;"},
        {"P10b", "if (!hasProgram || i < 0 ||", "if (!hasProgram ||"},
        {"P11a", "Value.contentOf(pointer) + which", "Value.contentOf(pointer) + 1 - which"},
        {"P11b", "(which != 0 && which != 1)", "which < 0"},
        {"P11b", "(which != 0 && which != 1)", "which > 1"},
        {"P11b", "(which != 0 && which != 1)) {", "(which != 0 && which != 1)) {\n            pointer = NOTHING;"},
        {"P11b", "if (Value.kindOf(pointer) != PAIR ||", "if (Value.kindOf(pointer) < PAIR ||"},
        {"P12a", "Arrays.fill(places, NOTHING);", ""},
        {"P12a", "places[place] = pointer;", "Arrays.fill(places, pointer);"},
        {"P12b", "PLACES = 4;", "PLACES = 5;"},
        {"P12b", "PLACES = 4;", "PLACES = 3;"},
        {"P12b", "if (place < 0 || place >= PLACES) {", "if (place < 0 || place >= PLACES) {\n            places[0] = pointer;"},
        {"P13a", "places[place] == pointer;", "(int) places[place] == (int) pointer;"},
        {"P13a", "places[place] == pointer;", "Value.kindOf(places[place]) == Value.kindOf(pointer);"},
        {"P13b", "return place >= 0 && place < PLACES && places", "return place < 0 || place >= PLACES || places"},
        {"P14a", "return Value.kindOf(pointer);\n            case 1:", "return Math.min(7, Value.kindOf(pointer));\n            case 1:"},
        {"P14b", "case INTEGER:\n            case NAME:\n                return content;", "case INTEGER:\n            case PAIR:\n            case NAME:\n                return content + (content == 0 ? 1 : 0);"},
        {"P14b", "return primitive < CONS ? 1 : 2;", "return primitive <= CONS ? 1 : 2;"},
        {"P14b", "wanted[lambdas] = wants;", "wanted[lambdas] = Math.min(7, wants);"},
        {"P14c", "numbers[name] == NONE) {", "numbers[name] == NONE && name >= FORM_WORDS) {"},
        {"P14c", "names.meet(QUOTE);", ""},
        {"P14c", "numbers[name] = met;\n                met++;", "met++;\n                numbers[name] = met;"},
        {"P14d", "return numberAtPointer();\n            default:\n                return NONE;", "return numberAtPointer();\n            default:\n                return 0;"},
        {"P15a", "return machine.open;", "return machine.top;"},
        {"P15a", "return program.rowForms;", "return program.rowForms - machine.through;"},
        {"P15b", "return machine.answer;\n            default:\n                return NONE;", "return machine.answer;\n            default:\n                return 0;"},
    };

    private final String source;
    private final String classes;
    private final Path room;

    private Mutants(String source, String classes, Path room) {
        this.source = source;
        this.classes = classes;
        this.room = room;
    }

    public static void main(String[] args) throws Exception {
        Path room = Files.createTempDirectory("mutants");
        try {
            Mutants all = new Mutants(Files.readString(Paths.get(args[0])), args[1], room);
            all.askAll(args.length > 2 ? args[2] : "");
        } finally {
            try (Stream<Path> files = Files.walk(room)) {
                files.sorted(Comparator.reverseOrder()).forEach(file -> file.toFile().delete());
            }
        }
    }

    private void askAll(String sentence) throws Exception {
        ExecutorService workers = Executors.newFixedThreadPool(Math.max(1, Runtime.getRuntime().availableProcessors() - 1));
        List<Future<String>> answers = new ArrayList<>();
        for (int i = 0; i < ALL.length; i++) {
            int which = i;
            if (sentence.isEmpty() || ALL[i][0].equals(sentence)) {
                answers.add(workers.submit(() -> ask(which)));
            }
        }
        int unseen = 0;
        for (Future<String> answer : answers) {
            if (!answer.get().isEmpty()) {
                unseen++;
                System.out.println(answer.get());
            }
        }
        workers.shutdown();
        System.out.println(answers.size() + " mutants, " + unseen + " not told by the test of their sentence");
        if (unseen > 0) {
            System.exit(1);
        }
    }

    /** Empty if the test of the sentence tells the break, or ends in another way than it should. */
    private String ask(int which) throws IOException, InterruptedException {
        String[] mutant = ALL[which];
        String who = mutant[0] + ": " + mutant[1].replace("\n", "\n    ") + "\n -> " + mutant[2].replace("\n", "\n    ");
        if (!source.contains(mutant[1])) {
            return "not in the source: " + who;
        }
        int at = source.indexOf(mutant[1]);
        String broken = source.substring(0, at) + mutant[2] + source.substring(at + mutant[1].length());
        Path here = Files.createDirectory(room.resolve("m" + which));
        Path file = here.resolve("BracketTongue.java");
        Files.writeString(file, broken);
        String test = mutant[0].charAt(0) == 'T' ? "TextBoundariesTest" : mutant[0].charAt(0) == 'W' ? "WorkBoundariesTest"
                : "CallBoundariesTest";
        String made = said(here, "javac", "-d", here.toString(), file.toString());
        if (!made.isEmpty()) {
            return "does not compile: " + who + "\n" + made;
        }
        String told = said(here, "java", "-cp", here + ":" + classes, test);
        boolean isTold = told.contains("[" + mutant[0] + " ") || told.contains("Exception in thread") || told.contains("too long");
        return isTold ? "" : "not told: " + who + "\n" + told.lines().limit(3).collect(Collectors.joining("\n"));
    }

    private String said(Path here, String... command) throws IOException, InterruptedException {
        command[0] = Paths.get(System.getProperty("java.home"), "bin", command[0]).toString();
        Path out = here.resolve("out" + command.length);
        Process process = new ProcessBuilder(command).redirectErrorStream(true).redirectOutput(out.toFile()).start();
        if (!process.waitFor(SECONDS_MOST, TimeUnit.SECONDS)) {
            process.destroyForcibly();
            return "too long";
        }
        return new String(Files.readAllBytes(out), StandardCharsets.ISO_8859_1);
    }
}
